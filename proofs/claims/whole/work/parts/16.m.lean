-- BenchTimesModel.allowanceOf
theorem dX11_allowanceOf_0 : di cX11_allowanceOf 0 (.aload_n 0) 1 1 := ⟨by decide +kernel, rfl⟩
theorem dX11_allowanceOf_1 : di cX11_allowanceOf 1 (.getfield 7) 3 4 := ⟨by decide +kernel, rfl⟩
theorem dX11_allowanceOf_4 : di cX11_allowanceOf 4 (.iload_n 1) 1 5 := ⟨by decide +kernel, rfl⟩
theorem dX11_allowanceOf_5 : di cX11_allowanceOf 5 (.iaload) 1 6 := ⟨by decide +kernel, rfl⟩
theorem dX11_allowanceOf_6 : dts cX11_allowanceOf 6 (1) (3) 61 [32, 42, 54] := ⟨55, #[26, 36, 48], 26, by decide +kernel, rfl, by decide +kernel⟩
theorem dX11_allowanceOf_32 : di cX11_allowanceOf 32 (.aload_n 0) 1 33 := ⟨by decide +kernel, rfl⟩
theorem dX11_allowanceOf_33 : di cX11_allowanceOf 33 (.getfield 13) 3 36 := ⟨by decide +kernel, rfl⟩
theorem dX11_allowanceOf_36 : di cX11_allowanceOf 36 (.aload_n 0) 1 37 := ⟨by decide +kernel, rfl⟩
theorem dX11_allowanceOf_37 : di cX11_allowanceOf 37 (.getfield 17) 3 40 := ⟨by decide +kernel, rfl⟩
theorem dX11_allowanceOf_40 : di cX11_allowanceOf 40 (.iadd) 1 41 := ⟨by decide +kernel, rfl⟩
theorem dX11_allowanceOf_41 : di cX11_allowanceOf 41 (.ireturn) 1 42 := ⟨by decide +kernel, rfl⟩
theorem dX11_allowanceOf_42 : di cX11_allowanceOf 42 (.aload_n 0) 1 43 := ⟨by decide +kernel, rfl⟩
theorem dX11_allowanceOf_43 : di cX11_allowanceOf 43 (.getfield 13) 3 46 := ⟨by decide +kernel, rfl⟩
theorem dX11_allowanceOf_46 : di cX11_allowanceOf 46 (.iconst 3) 1 47 := ⟨by decide +kernel, rfl⟩
theorem dX11_allowanceOf_47 : di cX11_allowanceOf 47 (.aload_n 0) 1 48 := ⟨by decide +kernel, rfl⟩
theorem dX11_allowanceOf_48 : di cX11_allowanceOf 48 (.getfield 17) 3 51 := ⟨by decide +kernel, rfl⟩
theorem dX11_allowanceOf_51 : di cX11_allowanceOf 51 (.imul) 1 52 := ⟨by decide +kernel, rfl⟩
theorem dX11_allowanceOf_52 : di cX11_allowanceOf 52 (.iadd) 1 53 := ⟨by decide +kernel, rfl⟩
theorem dX11_allowanceOf_53 : di cX11_allowanceOf 53 (.ireturn) 1 54 := ⟨by decide +kernel, rfl⟩
theorem dX11_allowanceOf_54 : di cX11_allowanceOf 54 (.aload_n 0) 1 55 := ⟨by decide +kernel, rfl⟩
theorem dX11_allowanceOf_55 : di cX11_allowanceOf 55 (.getfield 13) 3 58 := ⟨by decide +kernel, rfl⟩
theorem dX11_allowanceOf_58 : di cX11_allowanceOf 58 (.iconst 2) 1 59 := ⟨by decide +kernel, rfl⟩
theorem dX11_allowanceOf_59 : di cX11_allowanceOf 59 (.idiv) 1 60 := ⟨by decide +kernel, rfl⟩
theorem dX11_allowanceOf_60 : di cX11_allowanceOf 60 (.ireturn) 1 61 := ⟨by decide +kernel, rfl⟩
theorem dX11_allowanceOf_61 : di cX11_allowanceOf 61 (.aload_n 0) 1 62 := ⟨by decide +kernel, rfl⟩
theorem dX11_allowanceOf_62 : di cX11_allowanceOf 62 (.getfield 13) 3 65 := ⟨by decide +kernel, rfl⟩
theorem dX11_allowanceOf_65 : di cX11_allowanceOf 65 (.ireturn) 1 66 := ⟨by decide +kernel, rfl⟩
def f_X11_allowanceOf (v1 : Int32) (M : Mem) : Option Ret := gV v1 12 (if (M.1 66 v1.toNatClampNeg) = (1 : Int32) then (some ((M.1 11 2) + (M.1 11 3), M)) else (if (M.1 66 v1.toNatClampNeg) = (2 : Int32) then (some ((M.1 11 2) + ((3 : Int32) * (M.1 11 3)), M)) else (if (M.1 66 v1.toNatClampNeg) = (3 : Int32) then (some ((M.1 11 2) / (2 : Int32), M)) else (some (M.1 11 2, M)))))
set_option maxRecDepth 100000 in
theorem ok_X11_allowanceOf {l : Launch} {g : Cx} {v1 : Int32} {M : Mem} {r : Int32} {Mr : Mem} (h : f_X11_allowanceOf v1 M = some (r, Mr)) : CT l g yX11_allowanceOf cX11_allowanceOf 2 (some .int) 0 0 [.ref (g.1 11), .int v1] M (PI r Mr) := by
  refine CT_of (lv := [some (.ref (g.1 11)), some (.int v1)]) (by decide) rfl (Nat.le_of_ble_eq_true rfl) ?_
  unfold f_X11_allowanceOf at h
  refine A_aload_n dX11_allowanceOf_0 rfl ?_
  refine A_getf dX11_allowanceOf_1 fw_X11_7 ob11 rfl ?_
  refine A_iload_n dX11_allowanceOf_4 rfl ?_
  obtain ⟨hg, h⟩ := gV_go h
  refine A_iald dX11_allowanceOf_5 ia66 hg ?_
  by_cases hc0 : (M.1 66 v1.toNatClampNeg) = (1 : Int32)
  · have h := gT_go hc0 h
    refine A_tsIn (k0 := 0) dX11_allowanceOf_6 (by rw [hc0]; decide) rfl ?_
    refine A_aload_n dX11_allowanceOf_32 rfl ?_
    refine A_getf dX11_allowanceOf_33 fw_X11_13 ob11 rfl ?_
    refine A_aload_n dX11_allowanceOf_36 rfl ?_
    refine A_getf dX11_allowanceOf_37 fw_X11_17 ob11 rfl ?_
    refine A_iadd dX11_allowanceOf_40 ?_
    exact A_iret dX11_allowanceOf_41 (pI_go h)
  have h := gF_go hc0 h
  by_cases hc1 : (M.1 66 v1.toNatClampNeg) = (2 : Int32)
  · have h := gT_go hc1 h
    refine A_tsIn (k0 := 1) dX11_allowanceOf_6 (by rw [hc1]; decide) rfl ?_
    refine A_aload_n dX11_allowanceOf_42 rfl ?_
    refine A_getf dX11_allowanceOf_43 fw_X11_13 ob11 rfl ?_
    refine A_iconst (v := 3) dX11_allowanceOf_46 (by decide) ?_
    refine A_aload_n dX11_allowanceOf_47 rfl ?_
    refine A_getf dX11_allowanceOf_48 fw_X11_17 ob11 rfl ?_
    refine A_imul dX11_allowanceOf_51 ?_
    refine A_iadd dX11_allowanceOf_52 ?_
    exact A_iret dX11_allowanceOf_53 (pI_go h)
  have h := gF_go hc1 h
  by_cases hc2 : (M.1 66 v1.toNatClampNeg) = (3 : Int32)
  · have h := gT_go hc2 h
    refine A_tsIn (k0 := 2) dX11_allowanceOf_6 (by rw [hc2]; decide) rfl ?_
    refine A_aload_n dX11_allowanceOf_54 rfl ?_
    refine A_getf dX11_allowanceOf_55 fw_X11_13 ob11 rfl ?_
    refine A_iconst (v := 2) dX11_allowanceOf_58 (by decide) ?_
    refine A_idiv dX11_allowanceOf_59 (by decide) ?_
    exact A_iret dX11_allowanceOf_60 (pI_go h)
  have h := gF_go hc2 h
  refine A_tsOut dX11_allowanceOf_6 (tsw_out (fun k h1 h2 => ?_)) ?_
  · rcases (show k = 1 ∨ k = 2 ∨ k = 3 by omega) with rfl | rfl | rfl
    · exact hc0
    · exact hc1
    · exact hc2
  · refine A_aload_n dX11_allowanceOf_61 rfl ?_
    refine A_getf dX11_allowanceOf_62 fw_X11_13 ob11 rfl ?_
    exact A_iret dX11_allowanceOf_65 (pI_go h)
-- BenchTimesModel.as
theorem dX11_as_0 : di cX11_as 0 (.aload_n 0) 1 1 := ⟨by decide +kernel, rfl⟩
theorem dX11_as_1 : di cX11_as 1 (.iload_n 1) 1 2 := ⟨by decide +kernel, rfl⟩
theorem dX11_as_2 : di cX11_as 2 (.invokevirtual 141) 3 5 := ⟨by decide +kernel, rfl⟩
theorem dX11_as_5 : dj cX11_as 5 (.ifCond .eq) 8 17 := ⟨12, by decide +kernel, rfl, rfl⟩
theorem dX11_as_8 : di cX11_as 8 (.iload_n 2) 1 9 := ⟨by decide +kernel, rfl⟩
theorem dX11_as_9 : di cX11_as 9 (.iconst 0) 1 10 := ⟨by decide +kernel, rfl⟩
theorem dX11_as_10 : di cX11_as 10 (.iconst 3) 1 11 := ⟨by decide +kernel, rfl⟩
theorem dX11_as_11 : di cX11_as 11 (.invokestatic 133) 3 14 := ⟨by decide +kernel, rfl⟩
theorem dX11_as_14 : dj cX11_as 14 (.ifCond .ne) 17 23 := ⟨9, by decide +kernel, rfl, rfl⟩
theorem dX11_as_17 : di cX11_as 17 (.aload_n 0) 1 18 := ⟨by decide +kernel, rfl⟩
theorem dX11_as_18 : di cX11_as 18 (.iconst 1) 1 19 := ⟨by decide +kernel, rfl⟩
theorem dX11_as_19 : di cX11_as 19 (.invokevirtual 137) 3 22 := ⟨by decide +kernel, rfl⟩
theorem dX11_as_22 : di cX11_as 22 (.ireturn) 1 23 := ⟨by decide +kernel, rfl⟩
theorem dX11_as_23 : di cX11_as 23 (.iload_n 2) 1 24 := ⟨by decide +kernel, rfl⟩
theorem dX11_as_24 : dj cX11_as 24 (.ifCond .eq) 27 52 := ⟨28, by decide +kernel, rfl, rfl⟩
theorem dX11_as_27 : di cX11_as 27 (.aload_n 0) 1 28 := ⟨by decide +kernel, rfl⟩
theorem dX11_as_28 : di cX11_as 28 (.getfield 7) 3 31 := ⟨by decide +kernel, rfl⟩
theorem dX11_as_31 : di cX11_as 31 (.iload_n 1) 1 32 := ⟨by decide +kernel, rfl⟩
theorem dX11_as_32 : di cX11_as 32 (.iaload) 1 33 := ⟨by decide +kernel, rfl⟩
theorem dX11_as_33 : di cX11_as 33 (.iload_n 2) 1 34 := ⟨by decide +kernel, rfl⟩
theorem dX11_as_34 : dj cX11_as 34 (.if_icmp .eq) 37 52 := ⟨18, by decide +kernel, rfl, rfl⟩
theorem dX11_as_37 : di cX11_as 37 (.iload_n 2) 1 38 := ⟨by decide +kernel, rfl⟩
theorem dX11_as_38 : di cX11_as 38 (.iconst 1) 1 39 := ⟨by decide +kernel, rfl⟩
theorem dX11_as_39 : dj cX11_as 39 (.if_icmp .ne) 42 60 := ⟨21, by decide +kernel, rfl, rfl⟩
theorem dX11_as_42 : di cX11_as 42 (.aload_n 0) 1 43 := ⟨by decide +kernel, rfl⟩
theorem dX11_as_43 : di cX11_as 43 (.getfield 7) 3 46 := ⟨by decide +kernel, rfl⟩
theorem dX11_as_46 : di cX11_as 46 (.iload_n 1) 1 47 := ⟨by decide +kernel, rfl⟩
theorem dX11_as_47 : di cX11_as 47 (.iaload) 1 48 := ⟨by decide +kernel, rfl⟩
theorem dX11_as_48 : di cX11_as 48 (.iconst 2) 1 49 := ⟨by decide +kernel, rfl⟩
theorem dX11_as_49 : dj cX11_as 49 (.if_icmp .ne) 52 60 := ⟨11, by decide +kernel, rfl, rfl⟩
theorem dX11_as_52 : di cX11_as 52 (.aload_n 0) 1 53 := ⟨by decide +kernel, rfl⟩
theorem dX11_as_53 : di cX11_as 53 (.iload_n 1) 1 54 := ⟨by decide +kernel, rfl⟩
theorem dX11_as_54 : di cX11_as 54 (.invokevirtual 145) 3 57 := ⟨by decide +kernel, rfl⟩
theorem dX11_as_57 : dj cX11_as 57 .goto 60 65 := ⟨8, by decide +kernel, rfl, rfl⟩
theorem dX11_as_60 : di cX11_as 60 (.aload_n 0) 1 61 := ⟨by decide +kernel, rfl⟩
theorem dX11_as_61 : di cX11_as 61 (.iconst 5) 1 62 := ⟨by decide +kernel, rfl⟩
theorem dX11_as_62 : di cX11_as 62 (.invokevirtual 137) 3 65 := ⟨by decide +kernel, rfl⟩
theorem dX11_as_65 : di cX11_as 65 (.ireturn) 1 66 := ⟨by decide +kernel, rfl⟩
def f_X11_as (v1 : Int32) (v2 : Int32) (M : Mem) : Option Ret := bE (f_X11_isElement v1 M) (fun r2 M1 => if r2 = 0 then (bE (f_X11_finding (1 : Int32) M1) (fun r4 M3 => some (r4, M3))) else (bE (f_X11_isIn v2 (0 : Int32) (3 : Int32) M1) (fun r6 M5 => if r6 = 0 then (bE (f_X11_finding (1 : Int32) M5) (fun r21 M20 => some (r21, M20))) else (jn (α := Int32 → Mem → Option Ret) (fun (z8 : Int32) (M9 : Mem) => some (z8, M9)) (fun J7 => if v2 = 0 then (bE (f_X11_allowanceOf v1 M5) (fun r11 M10 => J7 r11 M10)) else (gV v1 12 (if (M5.1 66 v1.toNatClampNeg) = v2 then (bE (f_X11_allowanceOf v1 M5) (fun r13 M12 => J7 r13 M12)) else (if v2 = (1 : Int32) then (gV v1 12 (if (M5.1 66 v1.toNatClampNeg) = (2 : Int32) then (bE (f_X11_allowanceOf v1 M5) (fun r19 M18 => J7 r19 M18)) else (bE (f_X11_finding (5 : Int32) M5) (fun r17 M16 => J7 r17 M16)))) else (bE (f_X11_finding (5 : Int32) M5) (fun r15 M14 => J7 r15 M14))))))))))
set_option maxRecDepth 100000 in
theorem ok_X11_as {l : Launch} {g : Cx} {v1 : Int32} {v2 : Int32} {M : Mem} {r : Int32} {Mr : Mem} (h : f_X11_as v1 v2 M = some (r, Mr)) : CT l g yX11_as cX11_as 3 (some .int) 1 22 [.ref (g.1 11), .int v1, .int v2] M (PI r Mr) := by
  refine CT_of (lv := [some (.ref (g.1 11)), some (.int v1), some (.int v2)]) (by decide) rfl (Nat.le_of_ble_eq_true rfl) ?_
  unfold f_X11_as at h
  refine A_aload_n dX11_as_0 rfl ?_
  refine A_iload_n dX11_as_1 rfl ?_
  obtain ⟨r2, M1, h1, h⟩ := bE_go h
  refine A_cVi1 dX11_as_2 ml_X11_141 mb_X11_isElement mi_X11_isElement ob11 rfl rfl ⟨Nat.le_of_ble_eq_true rfl, Nat.le_of_ble_eq_true rfl⟩ (Nat.le_of_ble_eq_true rfl) (ok_X11_isElement h1) ?_
  refine A_if_eq dX11_as_5 (fun hc => ?_) (fun hc => ?_)
  · have h := gT_go hc h
    refine A_aload_n dX11_as_17 rfl ?_
    refine A_iconst (v := 1) dX11_as_18 (by decide) ?_
    obtain ⟨r4, M3, h1, h⟩ := bE_go h
    refine A_cVi1 dX11_as_19 ml_X11_137 mb_X11_finding mi_X11_finding ob11 rfl rfl ⟨Nat.le_of_ble_eq_true rfl, Nat.le_of_ble_eq_true rfl⟩ (Nat.le_of_ble_eq_true rfl) (ok_X11_finding h1) ?_
    exact A_iret dX11_as_22 (pI_go h)
  · have h := gF_go hc h
    refine A_iload_n dX11_as_8 rfl ?_
    refine A_iconst (v := 0) dX11_as_9 (by decide) ?_
    refine A_iconst (v := 3) dX11_as_10 (by decide) ?_
    obtain ⟨r6, M5, h1, h⟩ := bE_go h
    refine A_cSi3 dX11_as_11 ml_X11_133 mb_X11_isIn ms_X11_isIn ⟨Nat.le_of_ble_eq_true rfl, Nat.le_of_ble_eq_true rfl⟩ (Nat.le_of_ble_eq_true rfl) (ok_X11_isIn h1) ?_
    refine A_if_ne dX11_as_14 (fun hc => ?_) (fun hc => ?_)
    · have h := gF_go hc h
      refine A_iload_n dX11_as_23 rfl ?_
      obtain ⟨J7, hJ7, h⟩ := jn_go h
      have JJ7 : ∀ (z8 : Int32) (M9 : Mem), J7 z8 M9 = some (r, Mr) → AT l g RX11 cX11_as 3 (some .int) (rmM 1 22) (PI r Mr) 65 [some (.ref (g.1 11)), some (.int v1), some (.int v2)] [.int z8] M9 := by
        intro z8 M9 h
        rw [hJ7] at h
        exact A_iret dX11_as_65 (pI_go h)
      refine A_if_eq dX11_as_24 (fun hc => ?_) (fun hc => ?_)
      · have h := gT_go hc h
        refine A_aload_n dX11_as_52 rfl ?_
        refine A_iload_n dX11_as_53 rfl ?_
        obtain ⟨r11, M10, h1, h⟩ := bE_go h
        refine A_cVi1 dX11_as_54 ml_X11_145 mb_X11_allowanceOf mi_X11_allowanceOf ob11 rfl rfl ⟨Nat.le_of_ble_eq_true rfl, Nat.le_of_ble_eq_true rfl⟩ (Nat.le_of_ble_eq_true rfl) (ok_X11_allowanceOf h1) ?_
        refine A_goto dX11_as_57 ?_
        exact A_le (lvLe_s (lvLe_s (lvLe_s lvLe_0))) (JJ7 _ _ h)
      · have h := gF_go hc h
        refine A_aload_n dX11_as_27 rfl ?_
        refine A_getf dX11_as_28 fw_X11_7 ob11 rfl ?_
        refine A_iload_n dX11_as_31 rfl ?_
        obtain ⟨hg, h⟩ := gV_go h
        refine A_iald dX11_as_32 ia66 hg ?_
        refine A_iload_n dX11_as_33 rfl ?_
        refine A_icmp_eq dX11_as_34 (fun hc => ?_) (fun hc => ?_)
        · have h := gT_go hc h
          refine A_aload_n dX11_as_52 rfl ?_
          refine A_iload_n dX11_as_53 rfl ?_
          obtain ⟨r13, M12, h1, h⟩ := bE_go h
          refine A_cVi1 dX11_as_54 ml_X11_145 mb_X11_allowanceOf mi_X11_allowanceOf ob11 rfl rfl ⟨Nat.le_of_ble_eq_true rfl, Nat.le_of_ble_eq_true rfl⟩ (Nat.le_of_ble_eq_true rfl) (ok_X11_allowanceOf h1) ?_
          refine A_goto dX11_as_57 ?_
          exact A_le (lvLe_s (lvLe_s (lvLe_s lvLe_0))) (JJ7 _ _ h)
        · have h := gF_go hc h
          refine A_iload_n dX11_as_37 rfl ?_
          refine A_iconst (v := 1) dX11_as_38 (by decide) ?_
          refine A_icmp_ne dX11_as_39 (fun hc => ?_) (fun hc => ?_)
          · have h := gF_go hc h
            refine A_aload_n dX11_as_60 rfl ?_
            refine A_iconst (v := 5) dX11_as_61 (by decide) ?_
            obtain ⟨r15, M14, h1, h⟩ := bE_go h
            refine A_cVi1 dX11_as_62 ml_X11_137 mb_X11_finding mi_X11_finding ob11 rfl rfl ⟨Nat.le_of_ble_eq_true rfl, Nat.le_of_ble_eq_true rfl⟩ (Nat.le_of_ble_eq_true rfl) (ok_X11_finding h1) ?_
            exact A_le (lvLe_s (lvLe_s (lvLe_s lvLe_0))) (JJ7 _ _ h)
          · have h := gT_go hc h
            refine A_aload_n dX11_as_42 rfl ?_
            refine A_getf dX11_as_43 fw_X11_7 ob11 rfl ?_
            refine A_iload_n dX11_as_46 rfl ?_
            obtain ⟨hg, h⟩ := gV_go h
            refine A_iald dX11_as_47 ia66 hg ?_
            refine A_iconst (v := 2) dX11_as_48 (by decide) ?_
            refine A_icmp_ne dX11_as_49 (fun hc => ?_) (fun hc => ?_)
            · have h := gF_go hc h
              refine A_aload_n dX11_as_60 rfl ?_
              refine A_iconst (v := 5) dX11_as_61 (by decide) ?_
              obtain ⟨r17, M16, h1, h⟩ := bE_go h
              refine A_cVi1 dX11_as_62 ml_X11_137 mb_X11_finding mi_X11_finding ob11 rfl rfl ⟨Nat.le_of_ble_eq_true rfl, Nat.le_of_ble_eq_true rfl⟩ (Nat.le_of_ble_eq_true rfl) (ok_X11_finding h1) ?_
              exact A_le (lvLe_s (lvLe_s (lvLe_s lvLe_0))) (JJ7 _ _ h)
            · have h := gT_go hc h
              refine A_aload_n dX11_as_52 rfl ?_
              refine A_iload_n dX11_as_53 rfl ?_
              obtain ⟨r19, M18, h1, h⟩ := bE_go h
              refine A_cVi1 dX11_as_54 ml_X11_145 mb_X11_allowanceOf mi_X11_allowanceOf ob11 rfl rfl ⟨Nat.le_of_ble_eq_true rfl, Nat.le_of_ble_eq_true rfl⟩ (Nat.le_of_ble_eq_true rfl) (ok_X11_allowanceOf h1) ?_
              refine A_goto dX11_as_57 ?_
              exact A_le (lvLe_s (lvLe_s (lvLe_s lvLe_0))) (JJ7 _ _ h)
    · have h := gT_go hc h
      refine A_aload_n dX11_as_17 rfl ?_
      refine A_iconst (v := 1) dX11_as_18 (by decide) ?_
      obtain ⟨r21, M20, h1, h⟩ := bE_go h
      refine A_cVi1 dX11_as_19 ml_X11_137 mb_X11_finding mi_X11_finding ob11 rfl rfl ⟨Nat.le_of_ble_eq_true rfl, Nat.le_of_ble_eq_true rfl⟩ (Nat.le_of_ble_eq_true rfl) (ok_X11_finding h1) ?_
      exact A_iret dX11_as_22 (pI_go h)
-- BenchTimesModel.allow
theorem dX11_allow_0 : di cX11_allow 0 (.iload_n 1) 1 1 := ⟨by decide +kernel, rfl⟩
theorem dX11_allow_1 : di cX11_allow 1 (.iconst 0) 1 2 := ⟨by decide +kernel, rfl⟩
theorem dX11_allow_2 : di cX11_allow 2 (.bipush 50) 2 4 := ⟨by decide +kernel, rfl⟩
theorem dX11_allow_4 : di cX11_allow 4 (.invokestatic 133) 3 7 := ⟨by decide +kernel, rfl⟩
theorem dX11_allow_7 : dj cX11_allow 7 (.ifCond .eq) 10 20 := ⟨13, by decide +kernel, rfl, rfl⟩
theorem dX11_allow_10 : di cX11_allow 10 (.iload_n 2) 1 11 := ⟨by decide +kernel, rfl⟩
theorem dX11_allow_11 : di cX11_allow 11 (.iconst 0) 1 12 := ⟨by decide +kernel, rfl⟩
theorem dX11_allow_12 : di cX11_allow 12 (.bipush 50) 2 14 := ⟨by decide +kernel, rfl⟩
theorem dX11_allow_14 : di cX11_allow 14 (.invokestatic 133) 3 17 := ⟨by decide +kernel, rfl⟩
theorem dX11_allow_17 : dj cX11_allow 17 (.ifCond .ne) 20 26 := ⟨9, by decide +kernel, rfl, rfl⟩
theorem dX11_allow_20 : di cX11_allow 20 (.aload_n 0) 1 21 := ⟨by decide +kernel, rfl⟩
theorem dX11_allow_21 : di cX11_allow 21 (.iconst 1) 1 22 := ⟨by decide +kernel, rfl⟩
theorem dX11_allow_22 : di cX11_allow 22 (.invokevirtual 137) 3 25 := ⟨by decide +kernel, rfl⟩
theorem dX11_allow_25 : di cX11_allow 25 (.ireturn) 1 26 := ⟨by decide +kernel, rfl⟩
theorem dX11_allow_26 : di cX11_allow 26 (.aload_n 0) 1 27 := ⟨by decide +kernel, rfl⟩
theorem dX11_allow_27 : di cX11_allow 27 (.iload_n 1) 1 28 := ⟨by decide +kernel, rfl⟩
theorem dX11_allow_28 : di cX11_allow 28 (.putfield 13) 3 31 := ⟨by decide +kernel, rfl⟩
theorem dX11_allow_31 : di cX11_allow 31 (.aload_n 0) 1 32 := ⟨by decide +kernel, rfl⟩
theorem dX11_allow_32 : di cX11_allow 32 (.iload_n 2) 1 33 := ⟨by decide +kernel, rfl⟩
theorem dX11_allow_33 : di cX11_allow 33 (.putfield 17) 3 36 := ⟨by decide +kernel, rfl⟩
theorem dX11_allow_36 : di cX11_allow 36 (.iconst 1) 1 37 := ⟨by decide +kernel, rfl⟩
theorem dX11_allow_37 : di cX11_allow 37 (.ireturn) 1 38 := ⟨by decide +kernel, rfl⟩
def f_X11_allow (v1 : Int32) (v2 : Int32) (M : Mem) : Option Ret := bE (f_X11_isIn v1 (0 : Int32) (50 : Int32) M) (fun r2 M1 => if r2 = 0 then (bE (f_X11_finding (1 : Int32) M1) (fun r4 M3 => some (r4, M3))) else (bE (f_X11_isIn v2 (0 : Int32) (50 : Int32) M1) (fun r6 M5 => if r6 = 0 then (bE (f_X11_finding (1 : Int32) M5) (fun r10 M9 => some (r10, M9))) else (bM (up2 M5 11 2 v1) (fun M7 => bM (up2 M7 11 3 v2) (fun M8 => some ((1 : Int32), M8)))))))
set_option maxRecDepth 100000 in
theorem ok_X11_allow {l : Launch} {g : Cx} {v1 : Int32} {v2 : Int32} {M : Mem} {r : Int32} {Mr : Mem} (h : f_X11_allow v1 v2 M = some (r, Mr)) : CT l g yX11_allow cX11_allow 3 (some .int) 1 22 [.ref (g.1 11), .int v1, .int v2] M (PI r Mr) := by
  refine CT_of (lv := [some (.ref (g.1 11)), some (.int v1), some (.int v2)]) (by decide) rfl (Nat.le_of_ble_eq_true rfl) ?_
  unfold f_X11_allow at h
  refine A_iload_n dX11_allow_0 rfl ?_
  refine A_iconst (v := 0) dX11_allow_1 (by decide) ?_
  refine A_bipush (v := 50) dX11_allow_2 (by decide) ?_
  obtain ⟨r2, M1, h1, h⟩ := bE_go h
  refine A_cSi3 dX11_allow_4 ml_X11_133 mb_X11_isIn ms_X11_isIn ⟨Nat.le_of_ble_eq_true rfl, Nat.le_of_ble_eq_true rfl⟩ (Nat.le_of_ble_eq_true rfl) (ok_X11_isIn h1) ?_
  refine A_if_eq dX11_allow_7 (fun hc => ?_) (fun hc => ?_)
  · have h := gT_go hc h
    refine A_aload_n dX11_allow_20 rfl ?_
    refine A_iconst (v := 1) dX11_allow_21 (by decide) ?_
    obtain ⟨r4, M3, h1, h⟩ := bE_go h
    refine A_cVi1 dX11_allow_22 ml_X11_137 mb_X11_finding mi_X11_finding ob11 rfl rfl ⟨Nat.le_of_ble_eq_true rfl, Nat.le_of_ble_eq_true rfl⟩ (Nat.le_of_ble_eq_true rfl) (ok_X11_finding h1) ?_
    exact A_iret dX11_allow_25 (pI_go h)
  · have h := gF_go hc h
    refine A_iload_n dX11_allow_10 rfl ?_
    refine A_iconst (v := 0) dX11_allow_11 (by decide) ?_
    refine A_bipush (v := 50) dX11_allow_12 (by decide) ?_
    obtain ⟨r6, M5, h1, h⟩ := bE_go h
    refine A_cSi3 dX11_allow_14 ml_X11_133 mb_X11_isIn ms_X11_isIn ⟨Nat.le_of_ble_eq_true rfl, Nat.le_of_ble_eq_true rfl⟩ (Nat.le_of_ble_eq_true rfl) (ok_X11_isIn h1) ?_
    refine A_if_ne dX11_allow_17 (fun hc => ?_) (fun hc => ?_)
    · have h := gF_go hc h
      refine A_aload_n dX11_allow_26 rfl ?_
      refine A_iload_n dX11_allow_27 rfl ?_
      refine A_putf dX11_allow_28 pw_X11_13 ob11 pf11_2 (Nat.le_of_ble_eq_true rfl) (bM_go h (fun M7 h => ?_))
      refine A_aload_n dX11_allow_31 rfl ?_
      refine A_iload_n dX11_allow_32 rfl ?_
      refine A_putf dX11_allow_33 pw_X11_17 ob11 pf11_3 (Nat.le_of_ble_eq_true rfl) (bM_go h (fun M8 h => ?_))
      refine A_iconst (v := 1) dX11_allow_36 (by decide) ?_
      exact A_iret dX11_allow_37 (pI_go h)
    · have h := gT_go hc h
      refine A_aload_n dX11_allow_20 rfl ?_
      refine A_iconst (v := 1) dX11_allow_21 (by decide) ?_
      obtain ⟨r10, M9, h1, h⟩ := bE_go h
      refine A_cVi1 dX11_allow_22 ml_X11_137 mb_X11_finding mi_X11_finding ob11 rfl rfl ⟨Nat.le_of_ble_eq_true rfl, Nat.le_of_ble_eq_true rfl⟩ (Nat.le_of_ble_eq_true rfl) (ok_X11_finding h1) ?_
      exact A_iret dX11_allow_25 (pI_go h)
-- BenchTimesModel.film
theorem dX11_film_0 : di cX11_film 0 (.iload_n 1) 1 1 := ⟨by decide +kernel, rfl⟩
theorem dX11_film_1 : di cX11_film 1 (.iconst 0) 1 2 := ⟨by decide +kernel, rfl⟩
theorem dX11_film_2 : di cX11_film 2 (.iconst 3) 1 3 := ⟨by decide +kernel, rfl⟩
theorem dX11_film_3 : di cX11_film 3 (.invokestatic 133) 3 6 := ⟨by decide +kernel, rfl⟩
theorem dX11_film_6 : dj cX11_film 6 (.ifCond .eq) 9 23 := ⟨17, by decide +kernel, rfl, rfl⟩
theorem dX11_film_9 : di cX11_film 9 (.iload_n 2) 1 10 := ⟨by decide +kernel, rfl⟩
theorem dX11_film_10 : di cX11_film 10 (.invokestatic 148) 3 13 := ⟨by decide +kernel, rfl⟩
theorem dX11_film_13 : dj cX11_film 13 (.ifCond .eq) 16 23 := ⟨10, by decide +kernel, rfl, rfl⟩
theorem dX11_film_16 : di cX11_film 16 (.iload_n 3) 1 17 := ⟨by decide +kernel, rfl⟩
theorem dX11_film_17 : di cX11_film 17 (.invokestatic 148) 3 20 := ⟨by decide +kernel, rfl⟩
theorem dX11_film_20 : dj cX11_film 20 (.ifCond .ne) 23 29 := ⟨9, by decide +kernel, rfl, rfl⟩
theorem dX11_film_23 : di cX11_film 23 (.aload_n 0) 1 24 := ⟨by decide +kernel, rfl⟩
theorem dX11_film_24 : di cX11_film 24 (.iconst 1) 1 25 := ⟨by decide +kernel, rfl⟩
theorem dX11_film_25 : di cX11_film 25 (.invokevirtual 137) 3 28 := ⟨by decide +kernel, rfl⟩
theorem dX11_film_28 : di cX11_film 28 (.ireturn) 1 29 := ⟨by decide +kernel, rfl⟩
theorem dX11_film_29 : di cX11_film 29 (.aload_n 0) 1 30 := ⟨by decide +kernel, rfl⟩
theorem dX11_film_30 : di cX11_film 30 (.getfield 151) 3 33 := ⟨by decide +kernel, rfl⟩
theorem dX11_film_33 : di cX11_film 33 (.bipush 20) 2 35 := ⟨by decide +kernel, rfl⟩
theorem dX11_film_35 : dj cX11_film 35 (.if_icmp .ne) 38 44 := ⟨9, by decide +kernel, rfl, rfl⟩
theorem dX11_film_38 : di cX11_film 38 (.aload_n 0) 1 39 := ⟨by decide +kernel, rfl⟩
theorem dX11_film_39 : di cX11_film 39 (.iconst 4) 1 40 := ⟨by decide +kernel, rfl⟩
theorem dX11_film_40 : di cX11_film 40 (.invokevirtual 137) 3 43 := ⟨by decide +kernel, rfl⟩
theorem dX11_film_43 : di cX11_film 43 (.ireturn) 1 44 := ⟨by decide +kernel, rfl⟩
theorem dX11_film_44 : di cX11_film 44 (.aload_n 0) 1 45 := ⟨by decide +kernel, rfl⟩
theorem dX11_film_45 : di cX11_film 45 (.getfield 20) 3 48 := ⟨by decide +kernel, rfl⟩
theorem dX11_film_48 : di cX11_film 48 (.aload_n 0) 1 49 := ⟨by decide +kernel, rfl⟩
theorem dX11_film_49 : di cX11_film 49 (.getfield 151) 3 52 := ⟨by decide +kernel, rfl⟩
theorem dX11_film_52 : di cX11_film 52 (.iload_n 1) 1 53 := ⟨by decide +kernel, rfl⟩
theorem dX11_film_53 : di cX11_film 53 (.iastore) 1 54 := ⟨by decide +kernel, rfl⟩
theorem dX11_film_54 : di cX11_film 54 (.aload_n 0) 1 55 := ⟨by decide +kernel, rfl⟩
theorem dX11_film_55 : di cX11_film 55 (.getfield 23) 3 58 := ⟨by decide +kernel, rfl⟩
theorem dX11_film_58 : di cX11_film 58 (.aload_n 0) 1 59 := ⟨by decide +kernel, rfl⟩
theorem dX11_film_59 : di cX11_film 59 (.getfield 151) 3 62 := ⟨by decide +kernel, rfl⟩
theorem dX11_film_62 : di cX11_film 62 (.iload_n 3) 1 63 := ⟨by decide +kernel, rfl⟩
theorem dX11_film_63 : di cX11_film 63 (.iload_n 2) 1 64 := ⟨by decide +kernel, rfl⟩
theorem dX11_film_64 : di cX11_film 64 (.isub) 1 65 := ⟨by decide +kernel, rfl⟩
theorem dX11_film_65 : di cX11_film 65 (.iastore) 1 66 := ⟨by decide +kernel, rfl⟩
theorem dX11_film_66 : di cX11_film 66 (.aload_n 0) 1 67 := ⟨by decide +kernel, rfl⟩
theorem dX11_film_67 : di cX11_film 67 (.dup) 1 68 := ⟨by decide +kernel, rfl⟩
theorem dX11_film_68 : di cX11_film 68 (.getfield 151) 3 71 := ⟨by decide +kernel, rfl⟩
theorem dX11_film_71 : di cX11_film 71 (.iconst 1) 1 72 := ⟨by decide +kernel, rfl⟩
theorem dX11_film_72 : di cX11_film 72 (.iadd) 1 73 := ⟨by decide +kernel, rfl⟩
theorem dX11_film_73 : di cX11_film 73 (.putfield 151) 3 76 := ⟨by decide +kernel, rfl⟩
theorem dX11_film_76 : di cX11_film 76 (.aload_n 0) 1 77 := ⟨by decide +kernel, rfl⟩
theorem dX11_film_77 : di cX11_film 77 (.getfield 151) 3 80 := ⟨by decide +kernel, rfl⟩
theorem dX11_film_80 : di cX11_film 80 (.ireturn) 1 81 := ⟨by decide +kernel, rfl⟩
def f_X11_film (v1 : Int32) (v2 : Int32) (v3 : Int32) (M : Mem) : Option Ret := bE (f_X11_isIn v1 (0 : Int32) (3 : Int32) M) (fun r2 M1 => if r2 = 0 then (bE (f_X11_finding (1 : Int32) M1) (fun r4 M3 => some (r4, M3))) else (bE (f_X11_isPace v2 M1) (fun r6 M5 => if r6 = 0 then (bE (f_X11_finding (1 : Int32) M5) (fun r8 M7 => some (r8, M7))) else (bE (f_X11_isPace v3 M5) (fun r10 M9 => if r10 = 0 then (bE (f_X11_finding (1 : Int32) M9) (fun r17 M16 => some (r17, M16))) else (if (M9.1 11 4) = (20 : Int32) then (bE (f_X11_finding (4 : Int32) M9) (fun r15 M14 => some (r15, M14))) else (gV (M9.1 11 4) 20 (bM (up2 M9 67 (M9.1 11 4).toNatClampNeg v1) (fun M11 => gV (M11.1 11 4) 20 (bM (up2 M11 68 (M11.1 11 4).toNatClampNeg (v3 - v2)) (fun M12 => bM (up2 M12 11 4 ((M12.1 11 4) + (1 : Int32))) (fun M13 => some (M13.1 11 4, M13)))))))))))))
set_option maxRecDepth 100000 in
theorem ok_X11_film {l : Launch} {g : Cx} {v1 : Int32} {v2 : Int32} {v3 : Int32} {M : Mem} {r : Int32} {Mr : Mem} (h : f_X11_film v1 v2 v3 M = some (r, Mr)) : CT l g yX11_film cX11_film 4 (some .int) 2 42 [.ref (g.1 11), .int v1, .int v2, .int v3] M (PI r Mr) := by
  refine CT_of (lv := [some (.ref (g.1 11)), some (.int v1), some (.int v2), some (.int v3)]) (by decide) rfl (Nat.le_of_ble_eq_true rfl) ?_
  unfold f_X11_film at h
  refine A_iload_n dX11_film_0 rfl ?_
  refine A_iconst (v := 0) dX11_film_1 (by decide) ?_
  refine A_iconst (v := 3) dX11_film_2 (by decide) ?_
  obtain ⟨r2, M1, h1, h⟩ := bE_go h
  refine A_cSi3 dX11_film_3 ml_X11_133 mb_X11_isIn ms_X11_isIn ⟨Nat.le_of_ble_eq_true rfl, Nat.le_of_ble_eq_true rfl⟩ (Nat.le_of_ble_eq_true rfl) (ok_X11_isIn h1) ?_
  refine A_if_eq dX11_film_6 (fun hc => ?_) (fun hc => ?_)
  · have h := gT_go hc h
    refine A_aload_n dX11_film_23 rfl ?_
    refine A_iconst (v := 1) dX11_film_24 (by decide) ?_
    obtain ⟨r4, M3, h1, h⟩ := bE_go h
    refine A_cVi1 dX11_film_25 ml_X11_137 mb_X11_finding mi_X11_finding ob11 rfl rfl ⟨Nat.le_of_ble_eq_true rfl, Nat.le_of_ble_eq_true rfl⟩ (Nat.le_of_ble_eq_true rfl) (ok_X11_finding h1) ?_
    exact A_iret dX11_film_28 (pI_go h)
  · have h := gF_go hc h
    refine A_iload_n dX11_film_9 rfl ?_
    obtain ⟨r6, M5, h1, h⟩ := bE_go h
    refine A_cSi1 dX11_film_10 ml_X11_148 mb_X11_isPace ms_X11_isPace ⟨Nat.le_of_ble_eq_true rfl, Nat.le_of_ble_eq_true rfl⟩ (Nat.le_of_ble_eq_true rfl) (ok_X11_isPace h1) ?_
    refine A_if_eq dX11_film_13 (fun hc => ?_) (fun hc => ?_)
    · have h := gT_go hc h
      refine A_aload_n dX11_film_23 rfl ?_
      refine A_iconst (v := 1) dX11_film_24 (by decide) ?_
      obtain ⟨r8, M7, h1, h⟩ := bE_go h
      refine A_cVi1 dX11_film_25 ml_X11_137 mb_X11_finding mi_X11_finding ob11 rfl rfl ⟨Nat.le_of_ble_eq_true rfl, Nat.le_of_ble_eq_true rfl⟩ (Nat.le_of_ble_eq_true rfl) (ok_X11_finding h1) ?_
      exact A_iret dX11_film_28 (pI_go h)
    · have h := gF_go hc h
      refine A_iload_n dX11_film_16 rfl ?_
      obtain ⟨r10, M9, h1, h⟩ := bE_go h
      refine A_cSi1 dX11_film_17 ml_X11_148 mb_X11_isPace ms_X11_isPace ⟨Nat.le_of_ble_eq_true rfl, Nat.le_of_ble_eq_true rfl⟩ (Nat.le_of_ble_eq_true rfl) (ok_X11_isPace h1) ?_
      refine A_if_ne dX11_film_20 (fun hc => ?_) (fun hc => ?_)
      · have h := gF_go hc h
        refine A_aload_n dX11_film_29 rfl ?_
        refine A_getf dX11_film_30 fw_X11_151 ob11 rfl ?_
        refine A_bipush (v := 20) dX11_film_33 (by decide) ?_
        refine A_icmp_ne dX11_film_35 (fun hc => ?_) (fun hc => ?_)
        · have h := gF_go hc h
          refine A_aload_n dX11_film_44 rfl ?_
          refine A_getf dX11_film_45 fw_X11_20 ob11 rfl ?_
          refine A_aload_n dX11_film_48 rfl ?_
          refine A_getf dX11_film_49 fw_X11_151 ob11 rfl ?_
          refine A_iload_n dX11_film_52 rfl ?_
          obtain ⟨hg, h⟩ := gV_go h
          refine A_iast dX11_film_53 ia67 hg (bM_go h (fun M11 h => ?_))
          refine A_aload_n dX11_film_54 rfl ?_
          refine A_getf dX11_film_55 fw_X11_23 ob11 rfl ?_
          refine A_aload_n dX11_film_58 rfl ?_
          refine A_getf dX11_film_59 fw_X11_151 ob11 rfl ?_
          refine A_iload_n dX11_film_62 rfl ?_
          refine A_iload_n dX11_film_63 rfl ?_
          refine A_isub dX11_film_64 ?_
          obtain ⟨hg, h⟩ := gV_go h
          refine A_iast dX11_film_65 ia68 hg (bM_go h (fun M12 h => ?_))
          refine A_aload_n dX11_film_66 rfl ?_
          refine A_dup dX11_film_67 rfl ?_
          refine A_getf dX11_film_68 fw_X11_151 ob11 rfl ?_
          refine A_iconst (v := 1) dX11_film_71 (by decide) ?_
          refine A_iadd dX11_film_72 ?_
          refine A_putf dX11_film_73 pw_X11_151 ob11 pf11_4 (Nat.le_of_ble_eq_true rfl) (bM_go h (fun M13 h => ?_))
          refine A_aload_n dX11_film_76 rfl ?_
          refine A_getf dX11_film_77 fw_X11_151 ob11 rfl ?_
          exact A_iret dX11_film_80 (pI_go h)
        · have h := gT_go hc h
          refine A_aload_n dX11_film_38 rfl ?_
          refine A_iconst (v := 4) dX11_film_39 (by decide) ?_
          obtain ⟨r15, M14, h1, h⟩ := bE_go h
          refine A_cVi1 dX11_film_40 ml_X11_137 mb_X11_finding mi_X11_finding ob11 rfl rfl ⟨Nat.le_of_ble_eq_true rfl, Nat.le_of_ble_eq_true rfl⟩ (Nat.le_of_ble_eq_true rfl) (ok_X11_finding h1) ?_
          exact A_iret dX11_film_43 (pI_go h)
      · have h := gT_go hc h
        refine A_aload_n dX11_film_23 rfl ?_
        refine A_iconst (v := 1) dX11_film_24 (by decide) ?_
        obtain ⟨r17, M16, h1, h⟩ := bE_go h
        refine A_cVi1 dX11_film_25 ml_X11_137 mb_X11_finding mi_X11_finding ob11 rfl rfl ⟨Nat.le_of_ble_eq_true rfl, Nat.le_of_ble_eq_true rfl⟩ (Nat.le_of_ble_eq_true rfl) (ok_X11_finding h1) ?_
        exact A_iret dX11_film_28 (pI_go h)
-- BenchTimesModel.habitOf
theorem dX11_habitOf_0 : di cX11_habitOf 0 (.iconst 0) 1 1 := ⟨by decide +kernel, rfl⟩
theorem dX11_habitOf_1 : di cX11_habitOf 1 (.istore_n 2) 1 2 := ⟨by decide +kernel, rfl⟩
theorem dX11_habitOf_2 : di cX11_habitOf 2 (.iconst 0) 1 3 := ⟨by decide +kernel, rfl⟩
theorem dX11_habitOf_3 : di cX11_habitOf 3 (.istore_n 3) 1 4 := ⟨by decide +kernel, rfl⟩
theorem dX11_habitOf_4 : di cX11_habitOf 4 (.iconst 0) 1 5 := ⟨by decide +kernel, rfl⟩
theorem dX11_habitOf_5 : di cX11_habitOf 5 (.istore 4) 2 7 := ⟨by decide +kernel, rfl⟩
theorem dX11_habitOf_7 : di cX11_habitOf 7 (.iload 4) 2 9 := ⟨by decide +kernel, rfl⟩
theorem dX11_habitOf_9 : di cX11_habitOf 9 (.aload_n 0) 1 10 := ⟨by decide +kernel, rfl⟩
theorem dX11_habitOf_10 : di cX11_habitOf 10 (.getfield 151) 3 13 := ⟨by decide +kernel, rfl⟩
theorem dX11_habitOf_13 : dj cX11_habitOf 13 (.if_icmp .ge) 16 66 := ⟨53, by decide +kernel, rfl, rfl⟩
theorem dX11_habitOf_16 : di cX11_habitOf 16 (.iload_n 2) 1 17 := ⟨by decide +kernel, rfl⟩
theorem dX11_habitOf_17 : di cX11_habitOf 17 (.aload_n 0) 1 18 := ⟨by decide +kernel, rfl⟩
theorem dX11_habitOf_18 : di cX11_habitOf 18 (.getfield 20) 3 21 := ⟨by decide +kernel, rfl⟩
theorem dX11_habitOf_21 : di cX11_habitOf 21 (.iload 4) 2 23 := ⟨by decide +kernel, rfl⟩
theorem dX11_habitOf_23 : di cX11_habitOf 23 (.iaload) 1 24 := ⟨by decide +kernel, rfl⟩
theorem dX11_habitOf_24 : di cX11_habitOf 24 (.iload_n 1) 1 25 := ⟨by decide +kernel, rfl⟩
theorem dX11_habitOf_25 : dj cX11_habitOf 25 (.if_icmp .ne) 28 38 := ⟨13, by decide +kernel, rfl, rfl⟩
theorem dX11_habitOf_28 : di cX11_habitOf 28 (.aload_n 0) 1 29 := ⟨by decide +kernel, rfl⟩
theorem dX11_habitOf_29 : di cX11_habitOf 29 (.getfield 23) 3 32 := ⟨by decide +kernel, rfl⟩
theorem dX11_habitOf_32 : di cX11_habitOf 32 (.iload 4) 2 34 := ⟨by decide +kernel, rfl⟩
theorem dX11_habitOf_34 : di cX11_habitOf 34 (.iaload) 1 35 := ⟨by decide +kernel, rfl⟩
theorem dX11_habitOf_35 : dj cX11_habitOf 35 .goto 38 39 := ⟨4, by decide +kernel, rfl, rfl⟩
theorem dX11_habitOf_38 : di cX11_habitOf 38 (.iconst 0) 1 39 := ⟨by decide +kernel, rfl⟩
theorem dX11_habitOf_39 : di cX11_habitOf 39 (.iadd) 1 40 := ⟨by decide +kernel, rfl⟩
theorem dX11_habitOf_40 : di cX11_habitOf 40 (.istore_n 2) 1 41 := ⟨by decide +kernel, rfl⟩
theorem dX11_habitOf_41 : di cX11_habitOf 41 (.iload_n 3) 1 42 := ⟨by decide +kernel, rfl⟩
theorem dX11_habitOf_42 : di cX11_habitOf 42 (.aload_n 0) 1 43 := ⟨by decide +kernel, rfl⟩
theorem dX11_habitOf_43 : di cX11_habitOf 43 (.getfield 20) 3 46 := ⟨by decide +kernel, rfl⟩
theorem dX11_habitOf_46 : di cX11_habitOf 46 (.iload 4) 2 48 := ⟨by decide +kernel, rfl⟩
theorem dX11_habitOf_48 : di cX11_habitOf 48 (.iaload) 1 49 := ⟨by decide +kernel, rfl⟩
theorem dX11_habitOf_49 : di cX11_habitOf 49 (.iload_n 1) 1 50 := ⟨by decide +kernel, rfl⟩
theorem dX11_habitOf_50 : dj cX11_habitOf 50 (.if_icmp .ne) 53 57 := ⟨7, by decide +kernel, rfl, rfl⟩
theorem dX11_habitOf_53 : di cX11_habitOf 53 (.iconst 1) 1 54 := ⟨by decide +kernel, rfl⟩
theorem dX11_habitOf_54 : dj cX11_habitOf 54 .goto 57 58 := ⟨4, by decide +kernel, rfl, rfl⟩
theorem dX11_habitOf_57 : di cX11_habitOf 57 (.iconst 0) 1 58 := ⟨by decide +kernel, rfl⟩
theorem dX11_habitOf_58 : di cX11_habitOf 58 (.iadd) 1 59 := ⟨by decide +kernel, rfl⟩
theorem dX11_habitOf_59 : di cX11_habitOf 59 (.istore_n 3) 1 60 := ⟨by decide +kernel, rfl⟩
theorem dX11_habitOf_60 : di cX11_habitOf 60 (.iinc 4 1) 3 63 := ⟨by decide +kernel, rfl⟩
theorem dX11_habitOf_63 : dj cX11_habitOf 63 .goto 66 7 := ⟨-56, by decide +kernel, rfl, rfl⟩
theorem dX11_habitOf_66 : di cX11_habitOf 66 (.iload_n 3) 1 67 := ⟨by decide +kernel, rfl⟩
theorem dX11_habitOf_67 : dj cX11_habitOf 67 (.ifCond .ne) 70 74 := ⟨7, by decide +kernel, rfl, rfl⟩
theorem dX11_habitOf_70 : di cX11_habitOf 70 (.iconst 0) 1 71 := ⟨by decide +kernel, rfl⟩
theorem dX11_habitOf_71 : dj cX11_habitOf 71 .goto 74 77 := ⟨6, by decide +kernel, rfl, rfl⟩
theorem dX11_habitOf_74 : di cX11_habitOf 74 (.iload_n 2) 1 75 := ⟨by decide +kernel, rfl⟩
theorem dX11_habitOf_75 : di cX11_habitOf 75 (.iload_n 3) 1 76 := ⟨by decide +kernel, rfl⟩
theorem dX11_habitOf_76 : di cX11_habitOf 76 (.idiv) 1 77 := ⟨by decide +kernel, rfl⟩
theorem dX11_habitOf_77 : di cX11_habitOf 77 (.ireturn) 1 78 := ⟨by decide +kernel, rfl⟩
def f_X11_habitOf_L7 (v1 : Int32) : Nat → Int32 → Int32 → Int32 → Mem → (Int32 → Int32 → Int32 → Mem → Option Ret) → Option Ret
  | 0, _, _, _, _, _ => none
  | k7 + 1, v2, v3, v4, M, K7 => if (M.1 11 4) ≤ v4 then (K7 v2 v3 v4 M) else (gV v4 20 (jn (α := Int32 → Option Ret) (fun (z2 : Int32) => bI (v2 + z2) (fun x3 => gV v4 20 (jn (α := Int32 → Option Ret) (fun (z5 : Int32) => bI (v3 + z5) (fun x6 => f_X11_habitOf_L7 v1 k7 x3 x6 (v4 + (1 : Int32)) M K7)) (fun J4 => if (M.1 67 v4.toNatClampNeg) = v1 then (J4 (1 : Int32)) else (J4 (0 : Int32)))))) (fun J1 => if (M.1 67 v4.toNatClampNeg) = v1 then (gV v4 20 (J1 (M.1 68 v4.toNatClampNeg))) else (J1 (0 : Int32)))))
set_option maxRecDepth 100000 in
theorem f_X11_habitOf_L7_ok {l : Launch} {g : Cx} (v1 : Int32)  {r : Int32} {Mr : Mem} : ∀ (k : Nat) (v2 : Int32) (v3 : Int32) (v4 : Int32) (M : Mem) (K7 : Int32 → Int32 → Int32 → Mem → Option Ret), f_X11_habitOf_L7 v1 k v2 v3 v4 M K7 = some (r, Mr) → (∀ (v2 : Int32) (v3 : Int32) (v4 : Int32) (M : Mem), K7 v2 v3 v4 M = some (r, Mr) → AT l g RX11 cX11_habitOf 5 (some .int) (rmM 0 0) (PI r Mr) 66 [some (.ref (g.1 11)), some (.int v1), some (.int v2), some (.int v3), some (.int v4)] [] M) → AT l g RX11 cX11_habitOf 5 (some .int) (rmM 0 0) (PI r Mr) 7 [some (.ref (g.1 11)), some (.int v1), some (.int v2), some (.int v3), some (.int v4)] [] M
  | 0, v2, v3, v4, M, K7, h, hK7 => by cases h
  | k7 + 1, v2, v3, v4, M, K7, h, hK7 => by
    have ih7 := f_X11_habitOf_L7_ok (l := l) (g := g) v1 (r := r) (Mr := Mr) k7
    rw [f_X11_habitOf_L7] at h
    refine A_iload dX11_habitOf_7 rfl ?_
    refine A_aload_n dX11_habitOf_9 rfl ?_
    refine A_getf dX11_habitOf_10 fw_X11_151 ob11 rfl ?_
    refine A_icmp_ge dX11_habitOf_13 (fun hc => ?_) (fun hc => ?_)
    · have h := gT_go hc h
      exact A_le (lvLe_s (lvLe_s (lvLe_s (lvLe_s (lvLe_s lvLe_0))))) (hK7 _ _ _ _ h)
    · have h := gF_go hc h
      refine A_iload_n dX11_habitOf_16 rfl ?_
      refine A_aload_n dX11_habitOf_17 rfl ?_
      refine A_getf dX11_habitOf_18 fw_X11_20 ob11 rfl ?_
      refine A_iload dX11_habitOf_21 rfl ?_
      obtain ⟨hg, h⟩ := gV_go h
      refine A_iald dX11_habitOf_23 ia67 hg ?_
      refine A_iload_n dX11_habitOf_24 rfl ?_
      obtain ⟨J1, hJ1, h⟩ := jn_go h
      have JJ1 : ∀ (z2 : Int32), J1 z2 = some (r, Mr) → AT l g RX11 cX11_habitOf 5 (some .int) (rmM 0 0) (PI r Mr) 39 [some (.ref (g.1 11)), some (.int v1), some (.int v2), some (.int v3), some (.int v4)] [.int z2, .int v2] M := by
        intro z2 h
        rw [hJ1] at h
        refine A_iadd dX11_habitOf_39 ?_
        refine A_istoren2 dX11_habitOf_40 (by decide) rfl (bI_go h (G := fun z => AT l g RX11 cX11_habitOf 5 (some .int) (rmM 0 0) (PI r Mr) 41 [some (.ref (g.1 11)), some (.int v1), some (.int z), some (.int v3), some (.int v4)] [] M) (fun x3 h => ?_))
        refine A_iload_n dX11_habitOf_41 rfl ?_
        refine A_aload_n dX11_habitOf_42 rfl ?_
        refine A_getf dX11_habitOf_43 fw_X11_20 ob11 rfl ?_
        refine A_iload dX11_habitOf_46 rfl ?_
        obtain ⟨hg, h⟩ := gV_go h
        refine A_iald dX11_habitOf_48 ia67 hg ?_
        refine A_iload_n dX11_habitOf_49 rfl ?_
        obtain ⟨J4, hJ4, h⟩ := jn_go h
        have JJ4 : ∀ (z5 : Int32), J4 z5 = some (r, Mr) → AT l g RX11 cX11_habitOf 5 (some .int) (rmM 0 0) (PI r Mr) 58 [some (.ref (g.1 11)), some (.int v1), some (.int x3), some (.int v3), some (.int v4)] [.int z5, .int v3] M := by
          intro z5 h
          rw [hJ4] at h
          refine A_iadd dX11_habitOf_58 ?_
          refine A_istoren3 dX11_habitOf_59 (by decide) rfl (bI_go h (G := fun z => AT l g RX11 cX11_habitOf 5 (some .int) (rmM 0 0) (PI r Mr) 60 [some (.ref (g.1 11)), some (.int v1), some (.int x3), some (.int z), some (.int v4)] [] M) (fun x6 h => ?_))
          refine A_iinc4 (d := 1) dX11_habitOf_60 (by decide) (by decide) rfl ?_
          refine A_goto dX11_habitOf_63 ?_
          exact A_le (lvLe_s (lvLe_s (lvLe_s (lvLe_s (lvLe_s lvLe_0))))) (ih7 _ _ _ _ K7 h hK7)
        refine A_icmp_ne dX11_habitOf_50 (fun hc => ?_) (fun hc => ?_)
        · have h := gF_go hc h
          refine A_iconst (v := 0) dX11_habitOf_57 (by decide) ?_
          exact A_le (lvLe_s (lvLe_s (lvLe_s (lvLe_s (lvLe_s lvLe_0))))) (JJ4 _ h)
        · have h := gT_go hc h
          refine A_iconst (v := 1) dX11_habitOf_53 (by decide) ?_
          refine A_goto dX11_habitOf_54 ?_
          exact A_le (lvLe_s (lvLe_s (lvLe_s (lvLe_s (lvLe_s lvLe_0))))) (JJ4 _ h)
      refine A_icmp_ne dX11_habitOf_25 (fun hc => ?_) (fun hc => ?_)
      · have h := gF_go hc h
        refine A_iconst (v := 0) dX11_habitOf_38 (by decide) ?_
        exact A_le (lvLe_s (lvLe_s (lvLe_s (lvLe_s (lvLe_s lvLe_0))))) (JJ1 _ h)
      · have h := gT_go hc h
        refine A_aload_n dX11_habitOf_28 rfl ?_
        refine A_getf dX11_habitOf_29 fw_X11_23 ob11 rfl ?_
        refine A_iload dX11_habitOf_32 rfl ?_
        obtain ⟨hg, h⟩ := gV_go h
        refine A_iald dX11_habitOf_34 ia68 hg ?_
        refine A_goto dX11_habitOf_35 ?_
        exact A_le (lvLe_s (lvLe_s (lvLe_s (lvLe_s (lvLe_s lvLe_0))))) (JJ1 _ h)
def f_X11_habitOf (v1 : Int32) (M : Mem) : Option Ret := f_X11_habitOf_L7 v1 FU (0 : Int32) (0 : Int32) (0 : Int32) M (fun w7 w8 w9 M10 => jn (α := Int32 → Option Ret) (fun (z12 : Int32) => some (z12, M10)) (fun J11 => if w8 = 0 then (J11 (0 : Int32)) else (gN w8 (J11 (w7 / w8)))))
set_option maxRecDepth 100000 in
theorem ok_X11_habitOf {l : Launch} {g : Cx} {v1 : Int32} {M : Mem} {r : Int32} {Mr : Mem} (h : f_X11_habitOf v1 M = some (r, Mr)) : CT l g yX11_habitOf cX11_habitOf 5 (some .int) 0 0 [.ref (g.1 11), .int v1] M (PI r Mr) := by
  refine CT_of (lv := [some (.ref (g.1 11)), some (.int v1), none, none, none]) (by decide) rfl (Nat.le_of_ble_eq_true rfl) ?_
  unfold f_X11_habitOf at h
  refine A_iconst (v := 0) dX11_habitOf_0 (by decide) ?_
  refine A_istoren2 dX11_habitOf_1 (by decide) rfl ?_
  refine A_iconst (v := 0) dX11_habitOf_2 (by decide) ?_
  refine A_istoren3 dX11_habitOf_3 (by decide) rfl ?_
  refine A_iconst (v := 0) dX11_habitOf_4 (by decide) ?_
  refine A_istore4 dX11_habitOf_5 (by decide) rfl ?_
  refine f_X11_habitOf_L7_ok _ FU _ _ _ _ _ h (fun w7 w8 w9 M10 h => ?_)
  refine A_iload_n dX11_habitOf_66 rfl ?_
  obtain ⟨J11, hJ11, h⟩ := jn_go h
  have JJ11 : ∀ (z12 : Int32), J11 z12 = some (r, Mr) → AT l g RX11 cX11_habitOf 5 (some .int) (rmM 0 0) (PI r Mr) 77 [some (.ref (g.1 11)), some (.int v1), some (.int w7), some (.int w8), some (.int w9)] [.int z12] M10 := by
    intro z12 h
    rw [hJ11] at h
    exact A_iret dX11_habitOf_77 (pI_go h)
  refine A_if_ne dX11_habitOf_67 (fun hc => ?_) (fun hc => ?_)
  · have h := gF_go hc h
    refine A_iload_n dX11_habitOf_74 rfl ?_
    refine A_iload_n dX11_habitOf_75 rfl ?_
    obtain ⟨hg, h⟩ := gN_go h
    refine A_idiv dX11_habitOf_76 hg ?_
    exact A_le (lvLe_s (lvLe_s (lvLe_s (lvLe_s (lvLe_s lvLe_0))))) (JJ11 _ h)
  · have h := gT_go hc h
    refine A_iconst (v := 0) dX11_habitOf_70 (by decide) ?_
    refine A_goto dX11_habitOf_71 ?_
    exact A_le (lvLe_s (lvLe_s (lvLe_s (lvLe_s (lvLe_s lvLe_0))))) (JJ11 _ h)
-- BenchTimesModel.habit
theorem dX11_habit_0 : di cX11_habit 0 (.iload_n 1) 1 1 := ⟨by decide +kernel, rfl⟩
theorem dX11_habit_1 : di cX11_habit 1 (.iconst 0) 1 2 := ⟨by decide +kernel, rfl⟩
theorem dX11_habit_2 : di cX11_habit 2 (.iconst 3) 1 3 := ⟨by decide +kernel, rfl⟩
theorem dX11_habit_3 : di cX11_habit 3 (.invokestatic 133) 3 6 := ⟨by decide +kernel, rfl⟩
theorem dX11_habit_6 : dj cX11_habit 6 (.ifCond .eq) 9 17 := ⟨11, by decide +kernel, rfl, rfl⟩
theorem dX11_habit_9 : di cX11_habit 9 (.aload_n 0) 1 10 := ⟨by decide +kernel, rfl⟩
theorem dX11_habit_10 : di cX11_habit 10 (.iload_n 1) 1 11 := ⟨by decide +kernel, rfl⟩
theorem dX11_habit_11 : di cX11_habit 11 (.invokevirtual 154) 3 14 := ⟨by decide +kernel, rfl⟩
theorem dX11_habit_14 : dj cX11_habit 14 .goto 17 22 := ⟨8, by decide +kernel, rfl, rfl⟩
theorem dX11_habit_17 : di cX11_habit 17 (.aload_n 0) 1 18 := ⟨by decide +kernel, rfl⟩
theorem dX11_habit_18 : di cX11_habit 18 (.iconst 1) 1 19 := ⟨by decide +kernel, rfl⟩
theorem dX11_habit_19 : di cX11_habit 19 (.invokevirtual 137) 3 22 := ⟨by decide +kernel, rfl⟩
theorem dX11_habit_22 : di cX11_habit 22 (.ireturn) 1 23 := ⟨by decide +kernel, rfl⟩
def f_X11_habit (v1 : Int32) (M : Mem) : Option Ret := bE (f_X11_isIn v1 (0 : Int32) (3 : Int32) M) (fun r2 M1 => jn (α := Int32 → Mem → Option Ret) (fun (z4 : Int32) (M5 : Mem) => some (z4, M5)) (fun J3 => if r2 = 0 then (bE (f_X11_finding (1 : Int32) M1) (fun r7 M6 => J3 r7 M6)) else (bE (f_X11_habitOf v1 M1) (fun r9 M8 => J3 r9 M8))))
set_option maxRecDepth 100000 in
theorem ok_X11_habit {l : Launch} {g : Cx} {v1 : Int32} {M : Mem} {r : Int32} {Mr : Mem} (h : f_X11_habit v1 M = some (r, Mr)) : CT l g yX11_habit cX11_habit 2 (some .int) 1 24 [.ref (g.1 11), .int v1] M (PI r Mr) := by
  refine CT_of (lv := [some (.ref (g.1 11)), some (.int v1)]) (by decide) rfl (Nat.le_of_ble_eq_true rfl) ?_
  unfold f_X11_habit at h
  refine A_iload_n dX11_habit_0 rfl ?_
  refine A_iconst (v := 0) dX11_habit_1 (by decide) ?_
  refine A_iconst (v := 3) dX11_habit_2 (by decide) ?_
  obtain ⟨r2, M1, h1, h⟩ := bE_go h
  refine A_cSi3 dX11_habit_3 ml_X11_133 mb_X11_isIn ms_X11_isIn ⟨Nat.le_of_ble_eq_true rfl, Nat.le_of_ble_eq_true rfl⟩ (Nat.le_of_ble_eq_true rfl) (ok_X11_isIn h1) ?_
  obtain ⟨J3, hJ3, h⟩ := jn_go h
  have JJ3 : ∀ (z4 : Int32) (M5 : Mem), J3 z4 M5 = some (r, Mr) → AT l g RX11 cX11_habit 2 (some .int) (rmM 1 24) (PI r Mr) 22 [some (.ref (g.1 11)), some (.int v1)] [.int z4] M5 := by
    intro z4 M5 h
    rw [hJ3] at h
    exact A_iret dX11_habit_22 (pI_go h)
  refine A_if_eq dX11_habit_6 (fun hc => ?_) (fun hc => ?_)
  · have h := gT_go hc h
    refine A_aload_n dX11_habit_17 rfl ?_
    refine A_iconst (v := 1) dX11_habit_18 (by decide) ?_
    obtain ⟨r7, M6, h1, h⟩ := bE_go h
    refine A_cVi1 dX11_habit_19 ml_X11_137 mb_X11_finding mi_X11_finding ob11 rfl rfl ⟨Nat.le_of_ble_eq_true rfl, Nat.le_of_ble_eq_true rfl⟩ (Nat.le_of_ble_eq_true rfl) (ok_X11_finding h1) ?_
    exact A_le (lvLe_s (lvLe_s lvLe_0)) (JJ3 _ _ h)
  · have h := gF_go hc h
    refine A_aload_n dX11_habit_9 rfl ?_
    refine A_iload_n dX11_habit_10 rfl ?_
    obtain ⟨r9, M8, h1, h⟩ := bE_go h
    refine A_cVi1 dX11_habit_11 ml_X11_154 mb_X11_habitOf mi_X11_habitOf ob11 rfl rfl ⟨Nat.le_of_ble_eq_true rfl, Nat.le_of_ble_eq_true rfl⟩ (Nat.le_of_ble_eq_true rfl) (ok_X11_habitOf h1) ?_
    refine A_goto dX11_habit_14 ?_
    exact A_le (lvLe_s (lvLe_s lvLe_0)) (JJ3 _ _ h)
-- BenchTimesModel.cycle
theorem dX11_cycle_0 : di cX11_cycle 0 (.aload_n 0) 1 1 := ⟨by decide +kernel, rfl⟩
theorem dX11_cycle_1 : di cX11_cycle 1 (.iload_n 1) 1 2 := ⟨by decide +kernel, rfl⟩
theorem dX11_cycle_2 : di cX11_cycle 2 (.invokevirtual 141) 3 5 := ⟨by decide +kernel, rfl⟩
theorem dX11_cycle_5 : dj cX11_cycle 5 (.ifCond .eq) 8 36 := ⟨31, by decide +kernel, rfl, rfl⟩
theorem dX11_cycle_8 : di cX11_cycle 8 (.iload_n 2) 1 9 := ⟨by decide +kernel, rfl⟩
theorem dX11_cycle_9 : di cX11_cycle 9 (.iconst 0) 1 10 := ⟨by decide +kernel, rfl⟩
theorem dX11_cycle_10 : di cX11_cycle 10 (.iconst 3) 1 11 := ⟨by decide +kernel, rfl⟩
theorem dX11_cycle_11 : di cX11_cycle 11 (.invokestatic 133) 3 14 := ⟨by decide +kernel, rfl⟩
theorem dX11_cycle_14 : dj cX11_cycle 14 (.ifCond .eq) 17 36 := ⟨22, by decide +kernel, rfl, rfl⟩
theorem dX11_cycle_17 : di cX11_cycle 17 (.iload_n 3) 1 18 := ⟨by decide +kernel, rfl⟩
theorem dX11_cycle_18 : di cX11_cycle 18 (.invokestatic 148) 3 21 := ⟨by decide +kernel, rfl⟩
theorem dX11_cycle_21 : dj cX11_cycle 21 (.ifCond .eq) 24 36 := ⟨15, by decide +kernel, rfl, rfl⟩
theorem dX11_cycle_24 : di cX11_cycle 24 (.iload 4) 2 26 := ⟨by decide +kernel, rfl⟩
theorem dX11_cycle_26 : di cX11_cycle 26 (.iconst 1) 1 27 := ⟨by decide +kernel, rfl⟩
theorem dX11_cycle_27 : di cX11_cycle 27 (.sipush 999) 3 30 := ⟨by decide +kernel, rfl⟩
theorem dX11_cycle_30 : di cX11_cycle 30 (.invokestatic 133) 3 33 := ⟨by decide +kernel, rfl⟩
theorem dX11_cycle_33 : dj cX11_cycle 33 (.ifCond .ne) 36 42 := ⟨9, by decide +kernel, rfl, rfl⟩
theorem dX11_cycle_36 : di cX11_cycle 36 (.aload_n 0) 1 37 := ⟨by decide +kernel, rfl⟩
theorem dX11_cycle_37 : di cX11_cycle 37 (.iconst 1) 1 38 := ⟨by decide +kernel, rfl⟩
theorem dX11_cycle_38 : di cX11_cycle 38 (.invokevirtual 137) 3 41 := ⟨by decide +kernel, rfl⟩
theorem dX11_cycle_41 : di cX11_cycle 41 (.ireturn) 1 42 := ⟨by decide +kernel, rfl⟩
theorem dX11_cycle_42 : di cX11_cycle 42 (.aload_n 0) 1 43 := ⟨by decide +kernel, rfl⟩
theorem dX11_cycle_43 : di cX11_cycle 43 (.getfield 157) 3 46 := ⟨by decide +kernel, rfl⟩
theorem dX11_cycle_46 : di cX11_cycle 46 (.bipush 60) 2 48 := ⟨by decide +kernel, rfl⟩
theorem dX11_cycle_48 : dj cX11_cycle 48 (.if_icmp .ne) 51 57 := ⟨9, by decide +kernel, rfl, rfl⟩
theorem dX11_cycle_51 : di cX11_cycle 51 (.aload_n 0) 1 52 := ⟨by decide +kernel, rfl⟩
theorem dX11_cycle_52 : di cX11_cycle 52 (.iconst 4) 1 53 := ⟨by decide +kernel, rfl⟩
theorem dX11_cycle_53 : di cX11_cycle 53 (.invokevirtual 137) 3 56 := ⟨by decide +kernel, rfl⟩
theorem dX11_cycle_56 : di cX11_cycle 56 (.ireturn) 1 57 := ⟨by decide +kernel, rfl⟩
theorem dX11_cycle_57 : di cX11_cycle 57 (.aload_n 0) 1 58 := ⟨by decide +kernel, rfl⟩
theorem dX11_cycle_58 : di cX11_cycle 58 (.getfield 26) 3 61 := ⟨by decide +kernel, rfl⟩
theorem dX11_cycle_61 : di cX11_cycle 61 (.aload_n 0) 1 62 := ⟨by decide +kernel, rfl⟩
theorem dX11_cycle_62 : di cX11_cycle 62 (.getfield 157) 3 65 := ⟨by decide +kernel, rfl⟩
theorem dX11_cycle_65 : di cX11_cycle 65 (.iload_n 1) 1 66 := ⟨by decide +kernel, rfl⟩
theorem dX11_cycle_66 : di cX11_cycle 66 (.iastore) 1 67 := ⟨by decide +kernel, rfl⟩
theorem dX11_cycle_67 : di cX11_cycle 67 (.aload_n 0) 1 68 := ⟨by decide +kernel, rfl⟩
theorem dX11_cycle_68 : di cX11_cycle 68 (.getfield 29) 3 71 := ⟨by decide +kernel, rfl⟩
theorem dX11_cycle_71 : di cX11_cycle 71 (.aload_n 0) 1 72 := ⟨by decide +kernel, rfl⟩
theorem dX11_cycle_72 : di cX11_cycle 72 (.getfield 157) 3 75 := ⟨by decide +kernel, rfl⟩
theorem dX11_cycle_75 : di cX11_cycle 75 (.iload_n 2) 1 76 := ⟨by decide +kernel, rfl⟩
theorem dX11_cycle_76 : di cX11_cycle 76 (.iastore) 1 77 := ⟨by decide +kernel, rfl⟩
theorem dX11_cycle_77 : di cX11_cycle 77 (.aload_n 0) 1 78 := ⟨by decide +kernel, rfl⟩
theorem dX11_cycle_78 : di cX11_cycle 78 (.getfield 32) 3 81 := ⟨by decide +kernel, rfl⟩
theorem dX11_cycle_81 : di cX11_cycle 81 (.aload_n 0) 1 82 := ⟨by decide +kernel, rfl⟩
theorem dX11_cycle_82 : di cX11_cycle 82 (.getfield 157) 3 85 := ⟨by decide +kernel, rfl⟩
theorem dX11_cycle_85 : di cX11_cycle 85 (.iload_n 3) 1 86 := ⟨by decide +kernel, rfl⟩
theorem dX11_cycle_86 : di cX11_cycle 86 (.iastore) 1 87 := ⟨by decide +kernel, rfl⟩
theorem dX11_cycle_87 : di cX11_cycle 87 (.aload_n 0) 1 88 := ⟨by decide +kernel, rfl⟩
theorem dX11_cycle_88 : di cX11_cycle 88 (.getfield 35) 3 91 := ⟨by decide +kernel, rfl⟩
theorem dX11_cycle_91 : di cX11_cycle 91 (.aload_n 0) 1 92 := ⟨by decide +kernel, rfl⟩
theorem dX11_cycle_92 : di cX11_cycle 92 (.getfield 157) 3 95 := ⟨by decide +kernel, rfl⟩
theorem dX11_cycle_95 : di cX11_cycle 95 (.iload 4) 2 97 := ⟨by decide +kernel, rfl⟩
theorem dX11_cycle_97 : di cX11_cycle 97 (.iastore) 1 98 := ⟨by decide +kernel, rfl⟩
theorem dX11_cycle_98 : di cX11_cycle 98 (.aload_n 0) 1 99 := ⟨by decide +kernel, rfl⟩
theorem dX11_cycle_99 : di cX11_cycle 99 (.dup) 1 100 := ⟨by decide +kernel, rfl⟩
theorem dX11_cycle_100 : di cX11_cycle 100 (.getfield 157) 3 103 := ⟨by decide +kernel, rfl⟩
theorem dX11_cycle_103 : di cX11_cycle 103 (.iconst 1) 1 104 := ⟨by decide +kernel, rfl⟩
theorem dX11_cycle_104 : di cX11_cycle 104 (.iadd) 1 105 := ⟨by decide +kernel, rfl⟩
theorem dX11_cycle_105 : di cX11_cycle 105 (.putfield 157) 3 108 := ⟨by decide +kernel, rfl⟩
theorem dX11_cycle_108 : di cX11_cycle 108 (.aload_n 0) 1 109 := ⟨by decide +kernel, rfl⟩
theorem dX11_cycle_109 : di cX11_cycle 109 (.getfield 157) 3 112 := ⟨by decide +kernel, rfl⟩
theorem dX11_cycle_112 : di cX11_cycle 112 (.ireturn) 1 113 := ⟨by decide +kernel, rfl⟩
def f_X11_cycle (v1 : Int32) (v2 : Int32) (v3 : Int32) (v4 : Int32) (M : Mem) : Option Ret := bE (f_X11_isElement v1 M) (fun r2 M1 => if r2 = 0 then (bE (f_X11_finding (1 : Int32) M1) (fun r4 M3 => some (r4, M3))) else (bE (f_X11_isIn v2 (0 : Int32) (3 : Int32) M1) (fun r6 M5 => if r6 = 0 then (bE (f_X11_finding (1 : Int32) M5) (fun r8 M7 => some (r8, M7))) else (bE (f_X11_isPace v3 M5) (fun r10 M9 => if r10 = 0 then (bE (f_X11_finding (1 : Int32) M9) (fun r12 M11 => some (r12, M11))) else (bE (f_X11_isIn v4 (1 : Int32) (999 : Int32) M9) (fun r14 M13 => if r14 = 0 then (bE (f_X11_finding (1 : Int32) M13) (fun r23 M22 => some (r23, M22))) else (if (M13.1 11 7) = (60 : Int32) then (bE (f_X11_finding (4 : Int32) M13) (fun r21 M20 => some (r21, M20))) else (gV (M13.1 11 7) 60 (bM (up2 M13 69 (M13.1 11 7).toNatClampNeg v1) (fun M15 => gV (M15.1 11 7) 60 (bM (up2 M15 70 (M15.1 11 7).toNatClampNeg v2) (fun M16 => gV (M16.1 11 7) 60 (bM (up2 M16 71 (M16.1 11 7).toNatClampNeg v3) (fun M17 => gV (M17.1 11 7) 60 (bM (up2 M17 72 (M17.1 11 7).toNatClampNeg v4) (fun M18 => bM (up2 M18 11 7 ((M18.1 11 7) + (1 : Int32))) (fun M19 => some (M19.1 11 7, M19)))))))))))))))))))
set_option maxRecDepth 100000 in
theorem ok_X11_cycle {l : Launch} {g : Cx} {v1 : Int32} {v2 : Int32} {v3 : Int32} {v4 : Int32} {M : Mem} {r : Int32} {Mr : Mem} (h : f_X11_cycle v1 v2 v3 v4 M = some (r, Mr)) : CT l g yX11_cycle cX11_cycle 5 (some .int) 2 42 [.ref (g.1 11), .int v1, .int v2, .int v3, .int v4] M (PI r Mr) := by
  refine CT_of (lv := [some (.ref (g.1 11)), some (.int v1), some (.int v2), some (.int v3), some (.int v4)]) (by decide) rfl (Nat.le_of_ble_eq_true rfl) ?_
  unfold f_X11_cycle at h
  refine A_aload_n dX11_cycle_0 rfl ?_
  refine A_iload_n dX11_cycle_1 rfl ?_
  obtain ⟨r2, M1, h1, h⟩ := bE_go h
  refine A_cVi1 dX11_cycle_2 ml_X11_141 mb_X11_isElement mi_X11_isElement ob11 rfl rfl ⟨Nat.le_of_ble_eq_true rfl, Nat.le_of_ble_eq_true rfl⟩ (Nat.le_of_ble_eq_true rfl) (ok_X11_isElement h1) ?_
  refine A_if_eq dX11_cycle_5 (fun hc => ?_) (fun hc => ?_)
  · have h := gT_go hc h
    refine A_aload_n dX11_cycle_36 rfl ?_
    refine A_iconst (v := 1) dX11_cycle_37 (by decide) ?_
    obtain ⟨r4, M3, h1, h⟩ := bE_go h
    refine A_cVi1 dX11_cycle_38 ml_X11_137 mb_X11_finding mi_X11_finding ob11 rfl rfl ⟨Nat.le_of_ble_eq_true rfl, Nat.le_of_ble_eq_true rfl⟩ (Nat.le_of_ble_eq_true rfl) (ok_X11_finding h1) ?_
    exact A_iret dX11_cycle_41 (pI_go h)
  · have h := gF_go hc h
    refine A_iload_n dX11_cycle_8 rfl ?_
    refine A_iconst (v := 0) dX11_cycle_9 (by decide) ?_
    refine A_iconst (v := 3) dX11_cycle_10 (by decide) ?_
    obtain ⟨r6, M5, h1, h⟩ := bE_go h
    refine A_cSi3 dX11_cycle_11 ml_X11_133 mb_X11_isIn ms_X11_isIn ⟨Nat.le_of_ble_eq_true rfl, Nat.le_of_ble_eq_true rfl⟩ (Nat.le_of_ble_eq_true rfl) (ok_X11_isIn h1) ?_
    refine A_if_eq dX11_cycle_14 (fun hc => ?_) (fun hc => ?_)
    · have h := gT_go hc h
      refine A_aload_n dX11_cycle_36 rfl ?_
      refine A_iconst (v := 1) dX11_cycle_37 (by decide) ?_
      obtain ⟨r8, M7, h1, h⟩ := bE_go h
      refine A_cVi1 dX11_cycle_38 ml_X11_137 mb_X11_finding mi_X11_finding ob11 rfl rfl ⟨Nat.le_of_ble_eq_true rfl, Nat.le_of_ble_eq_true rfl⟩ (Nat.le_of_ble_eq_true rfl) (ok_X11_finding h1) ?_
      exact A_iret dX11_cycle_41 (pI_go h)
    · have h := gF_go hc h
      refine A_iload_n dX11_cycle_17 rfl ?_
      obtain ⟨r10, M9, h1, h⟩ := bE_go h
      refine A_cSi1 dX11_cycle_18 ml_X11_148 mb_X11_isPace ms_X11_isPace ⟨Nat.le_of_ble_eq_true rfl, Nat.le_of_ble_eq_true rfl⟩ (Nat.le_of_ble_eq_true rfl) (ok_X11_isPace h1) ?_
      refine A_if_eq dX11_cycle_21 (fun hc => ?_) (fun hc => ?_)
      · have h := gT_go hc h
        refine A_aload_n dX11_cycle_36 rfl ?_
        refine A_iconst (v := 1) dX11_cycle_37 (by decide) ?_
        obtain ⟨r12, M11, h1, h⟩ := bE_go h
        refine A_cVi1 dX11_cycle_38 ml_X11_137 mb_X11_finding mi_X11_finding ob11 rfl rfl ⟨Nat.le_of_ble_eq_true rfl, Nat.le_of_ble_eq_true rfl⟩ (Nat.le_of_ble_eq_true rfl) (ok_X11_finding h1) ?_
        exact A_iret dX11_cycle_41 (pI_go h)
      · have h := gF_go hc h
        refine A_iload dX11_cycle_24 rfl ?_
        refine A_iconst (v := 1) dX11_cycle_26 (by decide) ?_
        refine A_sipush (v := 999) dX11_cycle_27 (by decide) ?_
        obtain ⟨r14, M13, h1, h⟩ := bE_go h
        refine A_cSi3 dX11_cycle_30 ml_X11_133 mb_X11_isIn ms_X11_isIn ⟨Nat.le_of_ble_eq_true rfl, Nat.le_of_ble_eq_true rfl⟩ (Nat.le_of_ble_eq_true rfl) (ok_X11_isIn h1) ?_
        refine A_if_ne dX11_cycle_33 (fun hc => ?_) (fun hc => ?_)
        · have h := gF_go hc h
          refine A_aload_n dX11_cycle_42 rfl ?_
          refine A_getf dX11_cycle_43 fw_X11_157 ob11 rfl ?_
          refine A_bipush (v := 60) dX11_cycle_46 (by decide) ?_
          refine A_icmp_ne dX11_cycle_48 (fun hc => ?_) (fun hc => ?_)
          · have h := gF_go hc h
            refine A_aload_n dX11_cycle_57 rfl ?_
            refine A_getf dX11_cycle_58 fw_X11_26 ob11 rfl ?_
            refine A_aload_n dX11_cycle_61 rfl ?_
            refine A_getf dX11_cycle_62 fw_X11_157 ob11 rfl ?_
            refine A_iload_n dX11_cycle_65 rfl ?_
            obtain ⟨hg, h⟩ := gV_go h
            refine A_iast dX11_cycle_66 ia69 hg (bM_go h (fun M15 h => ?_))
            refine A_aload_n dX11_cycle_67 rfl ?_
            refine A_getf dX11_cycle_68 fw_X11_29 ob11 rfl ?_
            refine A_aload_n dX11_cycle_71 rfl ?_
            refine A_getf dX11_cycle_72 fw_X11_157 ob11 rfl ?_
            refine A_iload_n dX11_cycle_75 rfl ?_
            obtain ⟨hg, h⟩ := gV_go h
            refine A_iast dX11_cycle_76 ia70 hg (bM_go h (fun M16 h => ?_))
            refine A_aload_n dX11_cycle_77 rfl ?_
            refine A_getf dX11_cycle_78 fw_X11_32 ob11 rfl ?_
            refine A_aload_n dX11_cycle_81 rfl ?_
            refine A_getf dX11_cycle_82 fw_X11_157 ob11 rfl ?_
            refine A_iload_n dX11_cycle_85 rfl ?_
            obtain ⟨hg, h⟩ := gV_go h
            refine A_iast dX11_cycle_86 ia71 hg (bM_go h (fun M17 h => ?_))
            refine A_aload_n dX11_cycle_87 rfl ?_
            refine A_getf dX11_cycle_88 fw_X11_35 ob11 rfl ?_
            refine A_aload_n dX11_cycle_91 rfl ?_
            refine A_getf dX11_cycle_92 fw_X11_157 ob11 rfl ?_
            refine A_iload dX11_cycle_95 rfl ?_
            obtain ⟨hg, h⟩ := gV_go h
            refine A_iast dX11_cycle_97 ia72 hg (bM_go h (fun M18 h => ?_))
            refine A_aload_n dX11_cycle_98 rfl ?_
            refine A_dup dX11_cycle_99 rfl ?_
            refine A_getf dX11_cycle_100 fw_X11_157 ob11 rfl ?_
            refine A_iconst (v := 1) dX11_cycle_103 (by decide) ?_
            refine A_iadd dX11_cycle_104 ?_
            refine A_putf dX11_cycle_105 pw_X11_157 ob11 pf11_7 (Nat.le_of_ble_eq_true rfl) (bM_go h (fun M19 h => ?_))
            refine A_aload_n dX11_cycle_108 rfl ?_
            refine A_getf dX11_cycle_109 fw_X11_157 ob11 rfl ?_
            exact A_iret dX11_cycle_112 (pI_go h)
          · have h := gT_go hc h
            refine A_aload_n dX11_cycle_51 rfl ?_
            refine A_iconst (v := 4) dX11_cycle_52 (by decide) ?_
            obtain ⟨r21, M20, h1, h⟩ := bE_go h
            refine A_cVi1 dX11_cycle_53 ml_X11_137 mb_X11_finding mi_X11_finding ob11 rfl rfl ⟨Nat.le_of_ble_eq_true rfl, Nat.le_of_ble_eq_true rfl⟩ (Nat.le_of_ble_eq_true rfl) (ok_X11_finding h1) ?_
            exact A_iret dX11_cycle_56 (pI_go h)
        · have h := gT_go hc h
          refine A_aload_n dX11_cycle_36 rfl ?_
          refine A_iconst (v := 1) dX11_cycle_37 (by decide) ?_
          obtain ⟨r23, M22, h1, h⟩ := bE_go h
          refine A_cVi1 dX11_cycle_38 ml_X11_137 mb_X11_finding mi_X11_finding ob11 rfl rfl ⟨Nat.le_of_ble_eq_true rfl, Nat.le_of_ble_eq_true rfl⟩ (Nat.le_of_ble_eq_true rfl) (ok_X11_finding h1) ?_
          exact A_iret dX11_cycle_41 (pI_go h)
-- BenchTimesModel.normalOf
theorem dX11_normalOf_0 : di cX11_normalOf 0 (.aload_n 0) 1 1 := ⟨by decide +kernel, rfl⟩
theorem dX11_normalOf_1 : di cX11_normalOf 1 (.getfield 32) 3 4 := ⟨by decide +kernel, rfl⟩
theorem dX11_normalOf_4 : di cX11_normalOf 4 (.iload_n 1) 1 5 := ⟨by decide +kernel, rfl⟩
theorem dX11_normalOf_5 : di cX11_normalOf 5 (.iaload) 1 6 := ⟨by decide +kernel, rfl⟩
theorem dX11_normalOf_6 : di cX11_normalOf 6 (.aload_n 0) 1 7 := ⟨by decide +kernel, rfl⟩
theorem dX11_normalOf_7 : di cX11_normalOf 7 (.aload_n 0) 1 8 := ⟨by decide +kernel, rfl⟩
theorem dX11_normalOf_8 : di cX11_normalOf 8 (.getfield 29) 3 11 := ⟨by decide +kernel, rfl⟩
theorem dX11_normalOf_11 : di cX11_normalOf 11 (.iload_n 1) 1 12 := ⟨by decide +kernel, rfl⟩
theorem dX11_normalOf_12 : di cX11_normalOf 12 (.iaload) 1 13 := ⟨by decide +kernel, rfl⟩
theorem dX11_normalOf_13 : di cX11_normalOf 13 (.invokevirtual 154) 3 16 := ⟨by decide +kernel, rfl⟩
theorem dX11_normalOf_16 : di cX11_normalOf 16 (.isub) 1 17 := ⟨by decide +kernel, rfl⟩
theorem dX11_normalOf_17 : di cX11_normalOf 17 (.istore_n 2) 1 18 := ⟨by decide +kernel, rfl⟩
theorem dX11_normalOf_18 : di cX11_normalOf 18 (.aload_n 0) 1 19 := ⟨by decide +kernel, rfl⟩
theorem dX11_normalOf_19 : di cX11_normalOf 19 (.getfield 35) 3 22 := ⟨by decide +kernel, rfl⟩
theorem dX11_normalOf_22 : di cX11_normalOf 22 (.iload_n 1) 1 23 := ⟨by decide +kernel, rfl⟩
theorem dX11_normalOf_23 : di cX11_normalOf 23 (.iaload) 1 24 := ⟨by decide +kernel, rfl⟩
theorem dX11_normalOf_24 : di cX11_normalOf 24 (.iload_n 2) 1 25 := ⟨by decide +kernel, rfl⟩
theorem dX11_normalOf_25 : di cX11_normalOf 25 (.iconst 1) 1 26 := ⟨by decide +kernel, rfl⟩
theorem dX11_normalOf_26 : dj cX11_normalOf 26 (.if_icmp .ge) 29 33 := ⟨7, by decide +kernel, rfl, rfl⟩
theorem dX11_normalOf_29 : di cX11_normalOf 29 (.iconst 1) 1 30 := ⟨by decide +kernel, rfl⟩
theorem dX11_normalOf_30 : dj cX11_normalOf 30 .goto 33 34 := ⟨4, by decide +kernel, rfl, rfl⟩
theorem dX11_normalOf_33 : di cX11_normalOf 33 (.iload_n 2) 1 34 := ⟨by decide +kernel, rfl⟩
theorem dX11_normalOf_34 : di cX11_normalOf 34 (.imul) 1 35 := ⟨by decide +kernel, rfl⟩
theorem dX11_normalOf_35 : di cX11_normalOf 35 (.bipush 100) 2 37 := ⟨by decide +kernel, rfl⟩
theorem dX11_normalOf_37 : di cX11_normalOf 37 (.idiv) 1 38 := ⟨by decide +kernel, rfl⟩
theorem dX11_normalOf_38 : di cX11_normalOf 38 (.ireturn) 1 39 := ⟨by decide +kernel, rfl⟩
def f_X11_normalOf (v1 : Int32) (M : Mem) : Option Ret := gV v1 60 (gV v1 60 (bE (f_X11_habitOf (M.1 70 v1.toNatClampNeg) M) (fun r2 M1 => bI ((M.1 71 v1.toNatClampNeg) - r2) (fun x3 => gV v1 60 (jn (α := Int32 → Option Ret) (fun (z5 : Int32) => some (((M1.1 72 v1.toNatClampNeg) * z5) / (100 : Int32), M1)) (fun J4 => if (1 : Int32) ≤ x3 then (J4 x3) else (J4 (1 : Int32))))))))
set_option maxRecDepth 100000 in
theorem ok_X11_normalOf {l : Launch} {g : Cx} {v1 : Int32} {M : Mem} {r : Int32} {Mr : Mem} (h : f_X11_normalOf v1 M = some (r, Mr)) : CT l g yX11_normalOf cX11_normalOf 3 (some .int) 1 24 [.ref (g.1 11), .int v1] M (PI r Mr) := by
  refine CT_of (lv := [some (.ref (g.1 11)), some (.int v1), none]) (by decide) rfl (Nat.le_of_ble_eq_true rfl) ?_
  unfold f_X11_normalOf at h
  refine A_aload_n dX11_normalOf_0 rfl ?_
  refine A_getf dX11_normalOf_1 fw_X11_32 ob11 rfl ?_
  refine A_iload_n dX11_normalOf_4 rfl ?_
  obtain ⟨hg, h⟩ := gV_go h
  refine A_iald dX11_normalOf_5 ia71 hg ?_
  refine A_aload_n dX11_normalOf_6 rfl ?_
  refine A_aload_n dX11_normalOf_7 rfl ?_
  refine A_getf dX11_normalOf_8 fw_X11_29 ob11 rfl ?_
  refine A_iload_n dX11_normalOf_11 rfl ?_
  obtain ⟨hg, h⟩ := gV_go h
  refine A_iald dX11_normalOf_12 ia70 hg ?_
  obtain ⟨r2, M1, h1, h⟩ := bE_go h
  refine A_cVi1 dX11_normalOf_13 ml_X11_154 mb_X11_habitOf mi_X11_habitOf ob11 rfl rfl ⟨Nat.le_of_ble_eq_true rfl, Nat.le_of_ble_eq_true rfl⟩ (Nat.le_of_ble_eq_true rfl) (ok_X11_habitOf h1) ?_
  refine A_isub dX11_normalOf_16 ?_
  refine A_istoren2 dX11_normalOf_17 (by decide) rfl (bI_go h (G := fun z => AT l g RX11 cX11_normalOf 3 (some .int) (rmM 1 24) (PI r Mr) 18 [some (.ref (g.1 11)), some (.int v1), some (.int z)] [] M1) (fun x3 h => ?_))
  refine A_aload_n dX11_normalOf_18 rfl ?_
  refine A_getf dX11_normalOf_19 fw_X11_35 ob11 rfl ?_
  refine A_iload_n dX11_normalOf_22 rfl ?_
  obtain ⟨hg, h⟩ := gV_go h
  refine A_iald dX11_normalOf_23 ia72 hg ?_
  refine A_iload_n dX11_normalOf_24 rfl ?_
  refine A_iconst (v := 1) dX11_normalOf_25 (by decide) ?_
  obtain ⟨J4, hJ4, h⟩ := jn_go h
  have JJ4 : ∀ (z5 : Int32), J4 z5 = some (r, Mr) → AT l g RX11 cX11_normalOf 3 (some .int) (rmM 1 24) (PI r Mr) 34 [some (.ref (g.1 11)), some (.int v1), some (.int x3)] [.int z5, .int (M1.1 72 v1.toNatClampNeg)] M1 := by
    intro z5 h
    rw [hJ4] at h
    refine A_imul dX11_normalOf_34 ?_
    refine A_bipush (v := 100) dX11_normalOf_35 (by decide) ?_
    refine A_idiv dX11_normalOf_37 (by decide) ?_
    exact A_iret dX11_normalOf_38 (pI_go h)
  refine A_icmp_ge dX11_normalOf_26 (fun hc => ?_) (fun hc => ?_)
  · have h := gT_go hc h
    refine A_iload_n dX11_normalOf_33 rfl ?_
    exact A_le (lvLe_s (lvLe_s (lvLe_s lvLe_0))) (JJ4 _ h)
  · have h := gF_go hc h
    refine A_iconst (v := 1) dX11_normalOf_29 (by decide) ?_
    refine A_goto dX11_normalOf_30 ?_
    exact A_le (lvLe_s (lvLe_s (lvLe_s lvLe_0))) (JJ4 _ h)
-- BenchTimesModel.normal
theorem dX11_normal_0 : di cX11_normal 0 (.iload_n 1) 1 1 := ⟨by decide +kernel, rfl⟩
theorem dX11_normal_1 : dj cX11_normal 1 (.ifCond .lt) 4 20 := ⟨19, by decide +kernel, rfl, rfl⟩
theorem dX11_normal_4 : di cX11_normal 4 (.iload_n 1) 1 5 := ⟨by decide +kernel, rfl⟩
theorem dX11_normal_5 : di cX11_normal 5 (.aload_n 0) 1 6 := ⟨by decide +kernel, rfl⟩
theorem dX11_normal_6 : di cX11_normal 6 (.getfield 157) 3 9 := ⟨by decide +kernel, rfl⟩
theorem dX11_normal_9 : dj cX11_normal 9 (.if_icmp .ge) 12 20 := ⟨11, by decide +kernel, rfl, rfl⟩
theorem dX11_normal_12 : di cX11_normal 12 (.aload_n 0) 1 13 := ⟨by decide +kernel, rfl⟩
theorem dX11_normal_13 : di cX11_normal 13 (.iload_n 1) 1 14 := ⟨by decide +kernel, rfl⟩
theorem dX11_normal_14 : di cX11_normal 14 (.invokevirtual 160) 3 17 := ⟨by decide +kernel, rfl⟩
theorem dX11_normal_17 : dj cX11_normal 17 .goto 20 25 := ⟨8, by decide +kernel, rfl, rfl⟩
theorem dX11_normal_20 : di cX11_normal 20 (.aload_n 0) 1 21 := ⟨by decide +kernel, rfl⟩
theorem dX11_normal_21 : di cX11_normal 21 (.iconst 1) 1 22 := ⟨by decide +kernel, rfl⟩
theorem dX11_normal_22 : di cX11_normal 22 (.invokevirtual 137) 3 25 := ⟨by decide +kernel, rfl⟩
theorem dX11_normal_25 : di cX11_normal 25 (.ireturn) 1 26 := ⟨by decide +kernel, rfl⟩
def f_X11_normal (v1 : Int32) (M : Mem) : Option Ret := jn (α := Int32 → Mem → Option Ret) (fun (z2 : Int32) (M3 : Mem) => some (z2, M3)) (fun J1 => if v1 < 0 then (bE (f_X11_finding (1 : Int32) M) (fun r5 M4 => J1 r5 M4)) else (if (M.1 11 7) ≤ v1 then (bE (f_X11_finding (1 : Int32) M) (fun r7 M6 => J1 r7 M6)) else (bE (f_X11_normalOf v1 M) (fun r9 M8 => J1 r9 M8))))
set_option maxRecDepth 100000 in
theorem ok_X11_normal {l : Launch} {g : Cx} {v1 : Int32} {M : Mem} {r : Int32} {Mr : Mem} (h : f_X11_normal v1 M = some (r, Mr)) : CT l g yX11_normal cX11_normal 2 (some .int) 2 46 [.ref (g.1 11), .int v1] M (PI r Mr) := by
  refine CT_of (lv := [some (.ref (g.1 11)), some (.int v1)]) (by decide) rfl (Nat.le_of_ble_eq_true rfl) ?_
  unfold f_X11_normal at h
  refine A_iload_n dX11_normal_0 rfl ?_
  obtain ⟨J1, hJ1, h⟩ := jn_go h
  have JJ1 : ∀ (z2 : Int32) (M3 : Mem), J1 z2 M3 = some (r, Mr) → AT l g RX11 cX11_normal 2 (some .int) (rmM 2 46) (PI r Mr) 25 [some (.ref (g.1 11)), some (.int v1)] [.int z2] M3 := by
    intro z2 M3 h
    rw [hJ1] at h
    exact A_iret dX11_normal_25 (pI_go h)
  refine A_if_lt dX11_normal_1 (fun hc => ?_) (fun hc => ?_)
  · have h := gT_go hc h
    refine A_aload_n dX11_normal_20 rfl ?_
    refine A_iconst (v := 1) dX11_normal_21 (by decide) ?_
    obtain ⟨r5, M4, h1, h⟩ := bE_go h
    refine A_cVi1 dX11_normal_22 ml_X11_137 mb_X11_finding mi_X11_finding ob11 rfl rfl ⟨Nat.le_of_ble_eq_true rfl, Nat.le_of_ble_eq_true rfl⟩ (Nat.le_of_ble_eq_true rfl) (ok_X11_finding h1) ?_
    exact A_le (lvLe_s (lvLe_s lvLe_0)) (JJ1 _ _ h)
  · have h := gF_go hc h
    refine A_iload_n dX11_normal_4 rfl ?_
    refine A_aload_n dX11_normal_5 rfl ?_
    refine A_getf dX11_normal_6 fw_X11_157 ob11 rfl ?_
    refine A_icmp_ge dX11_normal_9 (fun hc => ?_) (fun hc => ?_)
    · have h := gT_go hc h
      refine A_aload_n dX11_normal_20 rfl ?_
      refine A_iconst (v := 1) dX11_normal_21 (by decide) ?_
      obtain ⟨r7, M6, h1, h⟩ := bE_go h
      refine A_cVi1 dX11_normal_22 ml_X11_137 mb_X11_finding mi_X11_finding ob11 rfl rfl ⟨Nat.le_of_ble_eq_true rfl, Nat.le_of_ble_eq_true rfl⟩ (Nat.le_of_ble_eq_true rfl) (ok_X11_finding h1) ?_
      exact A_le (lvLe_s (lvLe_s lvLe_0)) (JJ1 _ _ h)
    · have h := gF_go hc h
      refine A_aload_n dX11_normal_12 rfl ?_
      refine A_iload_n dX11_normal_13 rfl ?_
      obtain ⟨r9, M8, h1, h⟩ := bE_go h
      refine A_cVi1 dX11_normal_14 ml_X11_160 mb_X11_normalOf mi_X11_normalOf ob11 rfl rfl ⟨Nat.le_of_ble_eq_true rfl, Nat.le_of_ble_eq_true rfl⟩ (Nat.le_of_ble_eq_true rfl) (ok_X11_normalOf h1) ?_
      refine A_goto dX11_normal_17 ?_
      exact A_le (lvLe_s (lvLe_s lvLe_0)) (JJ1 _ _ h)
-- BenchTimesModel.cyclesOf
theorem dX11_cyclesOf_0 : di cX11_cyclesOf 0 (.iconst 0) 1 1 := ⟨by decide +kernel, rfl⟩
theorem dX11_cyclesOf_1 : di cX11_cyclesOf 1 (.istore_n 2) 1 2 := ⟨by decide +kernel, rfl⟩
theorem dX11_cyclesOf_2 : di cX11_cyclesOf 2 (.iconst 0) 1 3 := ⟨by decide +kernel, rfl⟩
theorem dX11_cyclesOf_3 : di cX11_cyclesOf 3 (.istore_n 3) 1 4 := ⟨by decide +kernel, rfl⟩
theorem dX11_cyclesOf_4 : di cX11_cyclesOf 4 (.iload_n 3) 1 5 := ⟨by decide +kernel, rfl⟩
theorem dX11_cyclesOf_5 : di cX11_cyclesOf 5 (.aload_n 0) 1 6 := ⟨by decide +kernel, rfl⟩
theorem dX11_cyclesOf_6 : di cX11_cyclesOf 6 (.getfield 157) 3 9 := ⟨by decide +kernel, rfl⟩
theorem dX11_cyclesOf_9 : dj cX11_cyclesOf 9 (.if_icmp .ge) 12 36 := ⟨27, by decide +kernel, rfl, rfl⟩
theorem dX11_cyclesOf_12 : di cX11_cyclesOf 12 (.iload_n 2) 1 13 := ⟨by decide +kernel, rfl⟩
theorem dX11_cyclesOf_13 : di cX11_cyclesOf 13 (.aload_n 0) 1 14 := ⟨by decide +kernel, rfl⟩
theorem dX11_cyclesOf_14 : di cX11_cyclesOf 14 (.getfield 26) 3 17 := ⟨by decide +kernel, rfl⟩
theorem dX11_cyclesOf_17 : di cX11_cyclesOf 17 (.iload_n 3) 1 18 := ⟨by decide +kernel, rfl⟩
theorem dX11_cyclesOf_18 : di cX11_cyclesOf 18 (.iaload) 1 19 := ⟨by decide +kernel, rfl⟩
theorem dX11_cyclesOf_19 : di cX11_cyclesOf 19 (.iload_n 1) 1 20 := ⟨by decide +kernel, rfl⟩
theorem dX11_cyclesOf_20 : dj cX11_cyclesOf 20 (.if_icmp .ne) 23 27 := ⟨7, by decide +kernel, rfl, rfl⟩
theorem dX11_cyclesOf_23 : di cX11_cyclesOf 23 (.iconst 1) 1 24 := ⟨by decide +kernel, rfl⟩
theorem dX11_cyclesOf_24 : dj cX11_cyclesOf 24 .goto 27 28 := ⟨4, by decide +kernel, rfl, rfl⟩
theorem dX11_cyclesOf_27 : di cX11_cyclesOf 27 (.iconst 0) 1 28 := ⟨by decide +kernel, rfl⟩
theorem dX11_cyclesOf_28 : di cX11_cyclesOf 28 (.iadd) 1 29 := ⟨by decide +kernel, rfl⟩
theorem dX11_cyclesOf_29 : di cX11_cyclesOf 29 (.istore_n 2) 1 30 := ⟨by decide +kernel, rfl⟩
theorem dX11_cyclesOf_30 : di cX11_cyclesOf 30 (.iinc 3 1) 3 33 := ⟨by decide +kernel, rfl⟩
theorem dX11_cyclesOf_33 : dj cX11_cyclesOf 33 .goto 36 4 := ⟨-29, by decide +kernel, rfl, rfl⟩
theorem dX11_cyclesOf_36 : di cX11_cyclesOf 36 (.iload_n 2) 1 37 := ⟨by decide +kernel, rfl⟩
theorem dX11_cyclesOf_37 : di cX11_cyclesOf 37 (.ireturn) 1 38 := ⟨by decide +kernel, rfl⟩
def f_X11_cyclesOf_L4 (v1 : Int32) : Nat → Int32 → Int32 → Mem → (Int32 → Int32 → Mem → Option Ret) → Option Ret
  | 0, _, _, _, _ => none
  | k4 + 1, v2, v3, M, K4 => if (M.1 11 7) ≤ v3 then (K4 v2 v3 M) else (gV v3 60 (jn (α := Int32 → Option Ret) (fun (z2 : Int32) => bI (v2 + z2) (fun x3 => f_X11_cyclesOf_L4 v1 k4 x3 (v3 + (1 : Int32)) M K4)) (fun J1 => if (M.1 69 v3.toNatClampNeg) = v1 then (J1 (1 : Int32)) else (J1 (0 : Int32)))))
set_option maxRecDepth 100000 in
theorem f_X11_cyclesOf_L4_ok {l : Launch} {g : Cx} (v1 : Int32)  {r : Int32} {Mr : Mem} : ∀ (k : Nat) (v2 : Int32) (v3 : Int32) (M : Mem) (K4 : Int32 → Int32 → Mem → Option Ret), f_X11_cyclesOf_L4 v1 k v2 v3 M K4 = some (r, Mr) → (∀ (v2 : Int32) (v3 : Int32) (M : Mem), K4 v2 v3 M = some (r, Mr) → AT l g RX11 cX11_cyclesOf 4 (some .int) (rmM 0 0) (PI r Mr) 36 [some (.ref (g.1 11)), some (.int v1), some (.int v2), some (.int v3)] [] M) → AT l g RX11 cX11_cyclesOf 4 (some .int) (rmM 0 0) (PI r Mr) 4 [some (.ref (g.1 11)), some (.int v1), some (.int v2), some (.int v3)] [] M
  | 0, v2, v3, M, K4, h, hK4 => by cases h
  | k4 + 1, v2, v3, M, K4, h, hK4 => by
    have ih4 := f_X11_cyclesOf_L4_ok (l := l) (g := g) v1 (r := r) (Mr := Mr) k4
    rw [f_X11_cyclesOf_L4] at h
    refine A_iload_n dX11_cyclesOf_4 rfl ?_
    refine A_aload_n dX11_cyclesOf_5 rfl ?_
    refine A_getf dX11_cyclesOf_6 fw_X11_157 ob11 rfl ?_
    refine A_icmp_ge dX11_cyclesOf_9 (fun hc => ?_) (fun hc => ?_)
    · have h := gT_go hc h
      exact A_le (lvLe_s (lvLe_s (lvLe_s (lvLe_s lvLe_0)))) (hK4 _ _ _ h)
    · have h := gF_go hc h
      refine A_iload_n dX11_cyclesOf_12 rfl ?_
      refine A_aload_n dX11_cyclesOf_13 rfl ?_
      refine A_getf dX11_cyclesOf_14 fw_X11_26 ob11 rfl ?_
      refine A_iload_n dX11_cyclesOf_17 rfl ?_
      obtain ⟨hg, h⟩ := gV_go h
      refine A_iald dX11_cyclesOf_18 ia69 hg ?_
      refine A_iload_n dX11_cyclesOf_19 rfl ?_
      obtain ⟨J1, hJ1, h⟩ := jn_go h
      have JJ1 : ∀ (z2 : Int32), J1 z2 = some (r, Mr) → AT l g RX11 cX11_cyclesOf 4 (some .int) (rmM 0 0) (PI r Mr) 28 [some (.ref (g.1 11)), some (.int v1), some (.int v2), some (.int v3)] [.int z2, .int v2] M := by
        intro z2 h
        rw [hJ1] at h
        refine A_iadd dX11_cyclesOf_28 ?_
        refine A_istoren2 dX11_cyclesOf_29 (by decide) rfl (bI_go h (G := fun z => AT l g RX11 cX11_cyclesOf 4 (some .int) (rmM 0 0) (PI r Mr) 30 [some (.ref (g.1 11)), some (.int v1), some (.int z), some (.int v3)] [] M) (fun x3 h => ?_))
        refine A_iinc3 (d := 1) dX11_cyclesOf_30 (by decide) (by decide) rfl ?_
        refine A_goto dX11_cyclesOf_33 ?_
        exact A_le (lvLe_s (lvLe_s (lvLe_s (lvLe_s lvLe_0)))) (ih4 _ _ _ K4 h hK4)
      refine A_icmp_ne dX11_cyclesOf_20 (fun hc => ?_) (fun hc => ?_)
      · have h := gF_go hc h
        refine A_iconst (v := 0) dX11_cyclesOf_27 (by decide) ?_
        exact A_le (lvLe_s (lvLe_s (lvLe_s (lvLe_s lvLe_0)))) (JJ1 _ h)
      · have h := gT_go hc h
        refine A_iconst (v := 1) dX11_cyclesOf_23 (by decide) ?_
        refine A_goto dX11_cyclesOf_24 ?_
        exact A_le (lvLe_s (lvLe_s (lvLe_s (lvLe_s lvLe_0)))) (JJ1 _ h)
def f_X11_cyclesOf (v1 : Int32) (M : Mem) : Option Ret := f_X11_cyclesOf_L4 v1 FU (0 : Int32) (0 : Int32) M (fun w4 w5 M6 => some (w4, M6))
set_option maxRecDepth 100000 in
theorem ok_X11_cyclesOf {l : Launch} {g : Cx} {v1 : Int32} {M : Mem} {r : Int32} {Mr : Mem} (h : f_X11_cyclesOf v1 M = some (r, Mr)) : CT l g yX11_cyclesOf cX11_cyclesOf 4 (some .int) 0 0 [.ref (g.1 11), .int v1] M (PI r Mr) := by
  refine CT_of (lv := [some (.ref (g.1 11)), some (.int v1), none, none]) (by decide) rfl (Nat.le_of_ble_eq_true rfl) ?_
  unfold f_X11_cyclesOf at h
  refine A_iconst (v := 0) dX11_cyclesOf_0 (by decide) ?_
  refine A_istoren2 dX11_cyclesOf_1 (by decide) rfl ?_
  refine A_iconst (v := 0) dX11_cyclesOf_2 (by decide) ?_
  refine A_istoren3 dX11_cyclesOf_3 (by decide) rfl ?_
  refine f_X11_cyclesOf_L4_ok _ FU _ _ _ _ h (fun w4 w5 M6 h => ?_)
  refine A_iload_n dX11_cyclesOf_36 rfl ?_
  exact A_iret dX11_cyclesOf_37 (pI_go h)
-- BenchTimesModel.keptOf
theorem dX11_keptOf_0 : di cX11_keptOf 0 (.iconst 0) 1 1 := ⟨by decide +kernel, rfl⟩
theorem dX11_keptOf_1 : di cX11_keptOf 1 (.istore_n 3) 1 2 := ⟨by decide +kernel, rfl⟩
theorem dX11_keptOf_2 : di cX11_keptOf 2 (.iconst 0) 1 3 := ⟨by decide +kernel, rfl⟩
theorem dX11_keptOf_3 : di cX11_keptOf 3 (.istore 4) 2 5 := ⟨by decide +kernel, rfl⟩
theorem dX11_keptOf_5 : di cX11_keptOf 5 (.iload 4) 2 7 := ⟨by decide +kernel, rfl⟩
theorem dX11_keptOf_7 : di cX11_keptOf 7 (.aload_n 0) 1 8 := ⟨by decide +kernel, rfl⟩
theorem dX11_keptOf_8 : di cX11_keptOf 8 (.getfield 157) 3 11 := ⟨by decide +kernel, rfl⟩
theorem dX11_keptOf_11 : dj cX11_keptOf 11 (.if_icmp .ge) 14 95 := ⟨84, by decide +kernel, rfl, rfl⟩
theorem dX11_keptOf_14 : di cX11_keptOf 14 (.aload_n 0) 1 15 := ⟨by decide +kernel, rfl⟩
theorem dX11_keptOf_15 : di cX11_keptOf 15 (.getfield 26) 3 18 := ⟨by decide +kernel, rfl⟩
theorem dX11_keptOf_18 : di cX11_keptOf 18 (.iload 4) 2 20 := ⟨by decide +kernel, rfl⟩
theorem dX11_keptOf_20 : di cX11_keptOf 20 (.iaload) 1 21 := ⟨by decide +kernel, rfl⟩
theorem dX11_keptOf_21 : di cX11_keptOf 21 (.iload_n 1) 1 22 := ⟨by decide +kernel, rfl⟩
theorem dX11_keptOf_22 : dj cX11_keptOf 22 (.if_icmp .ne) 25 89 := ⟨67, by decide +kernel, rfl, rfl⟩
theorem dX11_keptOf_25 : di cX11_keptOf 25 (.aload_n 0) 1 26 := ⟨by decide +kernel, rfl⟩
theorem dX11_keptOf_26 : di cX11_keptOf 26 (.iload 4) 2 28 := ⟨by decide +kernel, rfl⟩
theorem dX11_keptOf_28 : di cX11_keptOf 28 (.invokevirtual 160) 3 31 := ⟨by decide +kernel, rfl⟩
theorem dX11_keptOf_31 : di cX11_keptOf 31 (.istore 5) 2 33 := ⟨by decide +kernel, rfl⟩
theorem dX11_keptOf_33 : di cX11_keptOf 33 (.iload_n 3) 1 34 := ⟨by decide +kernel, rfl⟩
theorem dX11_keptOf_34 : di cX11_keptOf 34 (.istore 6) 2 36 := ⟨by decide +kernel, rfl⟩
theorem dX11_keptOf_36 : di cX11_keptOf 36 (.iload 6) 2 38 := ⟨by decide +kernel, rfl⟩
theorem dX11_keptOf_38 : dj cX11_keptOf 38 (.ifCond .le) 41 77 := ⟨39, by decide +kernel, rfl, rfl⟩
theorem dX11_keptOf_41 : di cX11_keptOf 41 (.aload_n 0) 1 42 := ⟨by decide +kernel, rfl⟩
theorem dX11_keptOf_42 : di cX11_keptOf 42 (.getfield 108) 3 45 := ⟨by decide +kernel, rfl⟩
theorem dX11_keptOf_45 : di cX11_keptOf 45 (.iload 6) 2 47 := ⟨by decide +kernel, rfl⟩
theorem dX11_keptOf_47 : di cX11_keptOf 47 (.iconst 1) 1 48 := ⟨by decide +kernel, rfl⟩
theorem dX11_keptOf_48 : di cX11_keptOf 48 (.isub) 1 49 := ⟨by decide +kernel, rfl⟩
theorem dX11_keptOf_49 : di cX11_keptOf 49 (.iaload) 1 50 := ⟨by decide +kernel, rfl⟩
theorem dX11_keptOf_50 : di cX11_keptOf 50 (.iload 5) 2 52 := ⟨by decide +kernel, rfl⟩
theorem dX11_keptOf_52 : dj cX11_keptOf 52 (.if_icmp .le) 55 77 := ⟨25, by decide +kernel, rfl, rfl⟩
theorem dX11_keptOf_55 : di cX11_keptOf 55 (.aload_n 0) 1 56 := ⟨by decide +kernel, rfl⟩
theorem dX11_keptOf_56 : di cX11_keptOf 56 (.getfield 108) 3 59 := ⟨by decide +kernel, rfl⟩
theorem dX11_keptOf_59 : di cX11_keptOf 59 (.iload 6) 2 61 := ⟨by decide +kernel, rfl⟩
theorem dX11_keptOf_61 : di cX11_keptOf 61 (.aload_n 0) 1 62 := ⟨by decide +kernel, rfl⟩
theorem dX11_keptOf_62 : di cX11_keptOf 62 (.getfield 108) 3 65 := ⟨by decide +kernel, rfl⟩
theorem dX11_keptOf_65 : di cX11_keptOf 65 (.iload 6) 2 67 := ⟨by decide +kernel, rfl⟩
theorem dX11_keptOf_67 : di cX11_keptOf 67 (.iconst 1) 1 68 := ⟨by decide +kernel, rfl⟩
theorem dX11_keptOf_68 : di cX11_keptOf 68 (.isub) 1 69 := ⟨by decide +kernel, rfl⟩
theorem dX11_keptOf_69 : di cX11_keptOf 69 (.iaload) 1 70 := ⟨by decide +kernel, rfl⟩
theorem dX11_keptOf_70 : di cX11_keptOf 70 (.iastore) 1 71 := ⟨by decide +kernel, rfl⟩
theorem dX11_keptOf_71 : di cX11_keptOf 71 (.iinc 6 (-1)) 3 74 := ⟨by decide +kernel, rfl⟩
theorem dX11_keptOf_74 : dj cX11_keptOf 74 .goto 77 36 := ⟨-38, by decide +kernel, rfl, rfl⟩
theorem dX11_keptOf_77 : di cX11_keptOf 77 (.aload_n 0) 1 78 := ⟨by decide +kernel, rfl⟩
theorem dX11_keptOf_78 : di cX11_keptOf 78 (.getfield 108) 3 81 := ⟨by decide +kernel, rfl⟩
theorem dX11_keptOf_81 : di cX11_keptOf 81 (.iload 6) 2 83 := ⟨by decide +kernel, rfl⟩
theorem dX11_keptOf_83 : di cX11_keptOf 83 (.iload 5) 2 85 := ⟨by decide +kernel, rfl⟩
theorem dX11_keptOf_85 : di cX11_keptOf 85 (.iastore) 1 86 := ⟨by decide +kernel, rfl⟩
theorem dX11_keptOf_86 : di cX11_keptOf 86 (.iinc 3 1) 3 89 := ⟨by decide +kernel, rfl⟩
theorem dX11_keptOf_89 : di cX11_keptOf 89 (.iinc 4 1) 3 92 := ⟨by decide +kernel, rfl⟩
theorem dX11_keptOf_92 : dj cX11_keptOf 92 .goto 95 5 := ⟨-87, by decide +kernel, rfl, rfl⟩
theorem dX11_keptOf_95 : di cX11_keptOf 95 (.aload_n 0) 1 96 := ⟨by decide +kernel, rfl⟩
theorem dX11_keptOf_96 : di cX11_keptOf 96 (.getfield 108) 3 99 := ⟨by decide +kernel, rfl⟩
theorem dX11_keptOf_99 : di cX11_keptOf 99 (.iload_n 3) 1 100 := ⟨by decide +kernel, rfl⟩
theorem dX11_keptOf_100 : di cX11_keptOf 100 (.iconst 1) 1 101 := ⟨by decide +kernel, rfl⟩
theorem dX11_keptOf_101 : di cX11_keptOf 101 (.isub) 1 102 := ⟨by decide +kernel, rfl⟩
theorem dX11_keptOf_102 : di cX11_keptOf 102 (.iconst 2) 1 103 := ⟨by decide +kernel, rfl⟩
theorem dX11_keptOf_103 : di cX11_keptOf 103 (.idiv) 1 104 := ⟨by decide +kernel, rfl⟩
theorem dX11_keptOf_104 : di cX11_keptOf 104 (.iaload) 1 105 := ⟨by decide +kernel, rfl⟩
theorem dX11_keptOf_105 : di cX11_keptOf 105 (.istore 4) 2 107 := ⟨by decide +kernel, rfl⟩
theorem dX11_keptOf_107 : di cX11_keptOf 107 (.iconst 0) 1 108 := ⟨by decide +kernel, rfl⟩
theorem dX11_keptOf_108 : di cX11_keptOf 108 (.istore 5) 2 110 := ⟨by decide +kernel, rfl⟩
theorem dX11_keptOf_110 : di cX11_keptOf 110 (.iconst 0) 1 111 := ⟨by decide +kernel, rfl⟩
theorem dX11_keptOf_111 : di cX11_keptOf 111 (.istore 6) 2 113 := ⟨by decide +kernel, rfl⟩
theorem dX11_keptOf_113 : di cX11_keptOf 113 (.iconst (-1)) 1 114 := ⟨by decide +kernel, rfl⟩
theorem dX11_keptOf_114 : di cX11_keptOf 114 (.istore 7) 2 116 := ⟨by decide +kernel, rfl⟩
theorem dX11_keptOf_116 : di cX11_keptOf 116 (.iconst (-1)) 1 117 := ⟨by decide +kernel, rfl⟩
theorem dX11_keptOf_117 : di cX11_keptOf 117 (.istore 8) 2 119 := ⟨by decide +kernel, rfl⟩
theorem dX11_keptOf_119 : di cX11_keptOf 119 (.iconst 0) 1 120 := ⟨by decide +kernel, rfl⟩
theorem dX11_keptOf_120 : di cX11_keptOf 120 (.istore 9) 2 122 := ⟨by decide +kernel, rfl⟩
theorem dX11_keptOf_122 : di cX11_keptOf 122 (.iload 9) 2 124 := ⟨by decide +kernel, rfl⟩
theorem dX11_keptOf_124 : di cX11_keptOf 124 (.iload_n 3) 1 125 := ⟨by decide +kernel, rfl⟩
theorem dX11_keptOf_125 : dj cX11_keptOf 125 (.if_icmp .ge) 128 223 := ⟨98, by decide +kernel, rfl, rfl⟩
theorem dX11_keptOf_128 : di cX11_keptOf 128 (.aload_n 0) 1 129 := ⟨by decide +kernel, rfl⟩
theorem dX11_keptOf_129 : di cX11_keptOf 129 (.getfield 108) 3 132 := ⟨by decide +kernel, rfl⟩
theorem dX11_keptOf_132 : di cX11_keptOf 132 (.iload 9) 2 134 := ⟨by decide +kernel, rfl⟩
theorem dX11_keptOf_134 : di cX11_keptOf 134 (.iaload) 1 135 := ⟨by decide +kernel, rfl⟩
theorem dX11_keptOf_135 : di cX11_keptOf 135 (.iload 4) 2 137 := ⟨by decide +kernel, rfl⟩
theorem dX11_keptOf_137 : dj cX11_keptOf 137 (.if_icmp .ge) 140 153 := ⟨16, by decide +kernel, rfl, rfl⟩
theorem dX11_keptOf_140 : di cX11_keptOf 140 (.iload 4) 2 142 := ⟨by decide +kernel, rfl⟩
theorem dX11_keptOf_142 : di cX11_keptOf 142 (.aload_n 0) 1 143 := ⟨by decide +kernel, rfl⟩
theorem dX11_keptOf_143 : di cX11_keptOf 143 (.getfield 108) 3 146 := ⟨by decide +kernel, rfl⟩
theorem dX11_keptOf_146 : di cX11_keptOf 146 (.iload 9) 2 148 := ⟨by decide +kernel, rfl⟩
theorem dX11_keptOf_148 : di cX11_keptOf 148 (.iaload) 1 149 := ⟨by decide +kernel, rfl⟩
theorem dX11_keptOf_149 : di cX11_keptOf 149 (.isub) 1 150 := ⟨by decide +kernel, rfl⟩
theorem dX11_keptOf_150 : dj cX11_keptOf 150 .goto 153 163 := ⟨13, by decide +kernel, rfl, rfl⟩
theorem dX11_keptOf_153 : di cX11_keptOf 153 (.aload_n 0) 1 154 := ⟨by decide +kernel, rfl⟩
theorem dX11_keptOf_154 : di cX11_keptOf 154 (.getfield 108) 3 157 := ⟨by decide +kernel, rfl⟩
theorem dX11_keptOf_157 : di cX11_keptOf 157 (.iload 9) 2 159 := ⟨by decide +kernel, rfl⟩
theorem dX11_keptOf_159 : di cX11_keptOf 159 (.iaload) 1 160 := ⟨by decide +kernel, rfl⟩
theorem dX11_keptOf_160 : di cX11_keptOf 160 (.iload 4) 2 162 := ⟨by decide +kernel, rfl⟩
theorem dX11_keptOf_162 : di cX11_keptOf 162 (.isub) 1 163 := ⟨by decide +kernel, rfl⟩
theorem dX11_keptOf_163 : di cX11_keptOf 163 (.istore 10) 2 165 := ⟨by decide +kernel, rfl⟩
theorem dX11_keptOf_165 : di cX11_keptOf 165 (.iload 10) 2 167 := ⟨by decide +kernel, rfl⟩
theorem dX11_keptOf_167 : di cX11_keptOf 167 (.iload 4) 2 169 := ⟨by decide +kernel, rfl⟩
theorem dX11_keptOf_169 : di cX11_keptOf 169 (.iconst 4) 1 170 := ⟨by decide +kernel, rfl⟩
theorem dX11_keptOf_170 : di cX11_keptOf 170 (.idiv) 1 171 := ⟨by decide +kernel, rfl⟩
theorem dX11_keptOf_171 : dj cX11_keptOf 171 (.if_icmp .gt) 174 217 := ⟨46, by decide +kernel, rfl, rfl⟩
theorem dX11_keptOf_174 : di cX11_keptOf 174 (.iinc 5 1) 3 177 := ⟨by decide +kernel, rfl⟩
theorem dX11_keptOf_177 : di cX11_keptOf 177 (.iload 6) 2 179 := ⟨by decide +kernel, rfl⟩
theorem dX11_keptOf_179 : di cX11_keptOf 179 (.aload_n 0) 1 180 := ⟨by decide +kernel, rfl⟩
theorem dX11_keptOf_180 : di cX11_keptOf 180 (.getfield 108) 3 183 := ⟨by decide +kernel, rfl⟩
theorem dX11_keptOf_183 : di cX11_keptOf 183 (.iload 9) 2 185 := ⟨by decide +kernel, rfl⟩
theorem dX11_keptOf_185 : di cX11_keptOf 185 (.iaload) 1 186 := ⟨by decide +kernel, rfl⟩
theorem dX11_keptOf_186 : di cX11_keptOf 186 (.iadd) 1 187 := ⟨by decide +kernel, rfl⟩
theorem dX11_keptOf_187 : di cX11_keptOf 187 (.istore 6) 2 189 := ⟨by decide +kernel, rfl⟩
theorem dX11_keptOf_189 : di cX11_keptOf 189 (.iload 7) 2 191 := ⟨by decide +kernel, rfl⟩
theorem dX11_keptOf_191 : dj cX11_keptOf 191 (.ifCond .ge) 194 204 := ⟨13, by decide +kernel, rfl, rfl⟩
theorem dX11_keptOf_194 : di cX11_keptOf 194 (.aload_n 0) 1 195 := ⟨by decide +kernel, rfl⟩
theorem dX11_keptOf_195 : di cX11_keptOf 195 (.getfield 108) 3 198 := ⟨by decide +kernel, rfl⟩
theorem dX11_keptOf_198 : di cX11_keptOf 198 (.iload 9) 2 200 := ⟨by decide +kernel, rfl⟩
theorem dX11_keptOf_200 : di cX11_keptOf 200 (.iaload) 1 201 := ⟨by decide +kernel, rfl⟩
theorem dX11_keptOf_201 : dj cX11_keptOf 201 .goto 204 206 := ⟨5, by decide +kernel, rfl, rfl⟩
theorem dX11_keptOf_204 : di cX11_keptOf 204 (.iload 7) 2 206 := ⟨by decide +kernel, rfl⟩
theorem dX11_keptOf_206 : di cX11_keptOf 206 (.istore 7) 2 208 := ⟨by decide +kernel, rfl⟩
theorem dX11_keptOf_208 : di cX11_keptOf 208 (.aload_n 0) 1 209 := ⟨by decide +kernel, rfl⟩
theorem dX11_keptOf_209 : di cX11_keptOf 209 (.getfield 108) 3 212 := ⟨by decide +kernel, rfl⟩
theorem dX11_keptOf_212 : di cX11_keptOf 212 (.iload 9) 2 214 := ⟨by decide +kernel, rfl⟩
theorem dX11_keptOf_214 : di cX11_keptOf 214 (.iaload) 1 215 := ⟨by decide +kernel, rfl⟩
theorem dX11_keptOf_215 : di cX11_keptOf 215 (.istore 8) 2 217 := ⟨by decide +kernel, rfl⟩
theorem dX11_keptOf_217 : di cX11_keptOf 217 (.iinc 9 1) 3 220 := ⟨by decide +kernel, rfl⟩
theorem dX11_keptOf_220 : dj cX11_keptOf 220 .goto 223 122 := ⟨-98, by decide +kernel, rfl, rfl⟩
theorem dX11_keptOf_223 : di cX11_keptOf 223 (.iload_n 2) 1 224 := ⟨by decide +kernel, rfl⟩
theorem dX11_keptOf_224 : di cX11_keptOf 224 (.iconst 2) 1 225 := ⟨by decide +kernel, rfl⟩
theorem dX11_keptOf_225 : dj cX11_keptOf 225 (.if_icmp .ne) 228 233 := ⟨8, by decide +kernel, rfl, rfl⟩
theorem dX11_keptOf_228 : di cX11_keptOf 228 (.iload 5) 2 230 := ⟨by decide +kernel, rfl⟩
theorem dX11_keptOf_230 : dj cX11_keptOf 230 .goto 233 258 := ⟨28, by decide +kernel, rfl, rfl⟩
theorem dX11_keptOf_233 : di cX11_keptOf 233 (.iload_n 2) 1 234 := ⟨by decide +kernel, rfl⟩
theorem dX11_keptOf_234 : di cX11_keptOf 234 (.iconst 3) 1 235 := ⟨by decide +kernel, rfl⟩
theorem dX11_keptOf_235 : dj cX11_keptOf 235 (.if_icmp .ne) 238 246 := ⟨11, by decide +kernel, rfl, rfl⟩
theorem dX11_keptOf_238 : di cX11_keptOf 238 (.iload 6) 2 240 := ⟨by decide +kernel, rfl⟩
theorem dX11_keptOf_240 : di cX11_keptOf 240 (.iload 5) 2 242 := ⟨by decide +kernel, rfl⟩
theorem dX11_keptOf_242 : di cX11_keptOf 242 (.idiv) 1 243 := ⟨by decide +kernel, rfl⟩
theorem dX11_keptOf_243 : dj cX11_keptOf 243 .goto 246 258 := ⟨15, by decide +kernel, rfl, rfl⟩
theorem dX11_keptOf_246 : di cX11_keptOf 246 (.iload_n 2) 1 247 := ⟨by decide +kernel, rfl⟩
theorem dX11_keptOf_247 : di cX11_keptOf 247 (.iconst 5) 1 248 := ⟨by decide +kernel, rfl⟩
theorem dX11_keptOf_248 : dj cX11_keptOf 248 (.if_icmp .ne) 251 256 := ⟨8, by decide +kernel, rfl, rfl⟩
theorem dX11_keptOf_251 : di cX11_keptOf 251 (.iload 7) 2 253 := ⟨by decide +kernel, rfl⟩
theorem dX11_keptOf_253 : dj cX11_keptOf 253 .goto 256 258 := ⟨5, by decide +kernel, rfl, rfl⟩
theorem dX11_keptOf_256 : di cX11_keptOf 256 (.iload 8) 2 258 := ⟨by decide +kernel, rfl⟩
theorem dX11_keptOf_258 : di cX11_keptOf 258 (.ireturn) 1 259 := ⟨by decide +kernel, rfl⟩
def f_X11_keptOf_L36 (v1 : Int32) (v2 : Int32) (v3 : Int32) (v4 : Int32) (v5 : Int32) : Nat → Int32 → Mem → (Int32 → Mem → Option Ret) → Option Ret
  | 0, _, _, _ => none
  | k36 + 1, v6, M, K36 => if v6 ≤ 0 then (K36 v6 M) else (gV (v6 - (1 : Int32)) 60 (if (M.1 96 (v6 - (1 : Int32)).toNatClampNeg) ≤ v5 then (K36 v6 M) else (gV (v6 - (1 : Int32)) 60 (gV v6 60 (bM (up2 M 96 v6.toNatClampNeg (M.1 96 (v6 - (1 : Int32)).toNatClampNeg)) (fun M6 => f_X11_keptOf_L36 v1 v2 v3 v4 v5 k36 (v6 + (-1 : Int32)) M6 K36))))))
set_option maxRecDepth 100000 in
theorem f_X11_keptOf_L36_ok {l : Launch} {g : Cx} (v1 : Int32) (v2 : Int32) (v3 : Int32) (v4 : Int32) (v5 : Int32)  {r : Int32} {Mr : Mem} : ∀ (k : Nat) (v6 : Int32) (M : Mem) (K36 : Int32 → Mem → Option Ret), f_X11_keptOf_L36 v1 v2 v3 v4 v5 k v6 M K36 = some (r, Mr) → (∀ (v6 : Int32) (M : Mem), K36 v6 M = some (r, Mr) → AT l g RX11 cX11_keptOf 11 (some .int) (rmM 2 46) (PI r Mr) 77 [some (.ref (g.1 11)), some (.int v1), some (.int v2), some (.int v3), some (.int v4), some (.int v5), some (.int v6), none, none, none, none] [] M) → AT l g RX11 cX11_keptOf 11 (some .int) (rmM 2 46) (PI r Mr) 36 [some (.ref (g.1 11)), some (.int v1), some (.int v2), some (.int v3), some (.int v4), some (.int v5), some (.int v6), none, none, none, none] [] M
  | 0, v6, M, K36, h, hK36 => by cases h
  | k36 + 1, v6, M, K36, h, hK36 => by
    have ih36 := f_X11_keptOf_L36_ok (l := l) (g := g) v1 v2 v3 v4 v5 (r := r) (Mr := Mr) k36
    rw [f_X11_keptOf_L36] at h
    refine A_iload dX11_keptOf_36 rfl ?_
    refine A_if_le dX11_keptOf_38 (fun hc => ?_) (fun hc => ?_)
    · have h := gT_go hc h
      exact A_le (lvLe_s (lvLe_s (lvLe_s (lvLe_s (lvLe_s (lvLe_s (lvLe_s (lvLe_n (lvLe_n (lvLe_n (lvLe_n lvLe_0))))))))))) (hK36 _ _ h)
    · have h := gF_go hc h
      refine A_aload_n dX11_keptOf_41 rfl ?_
      refine A_getf dX11_keptOf_42 fw_X11_108 ob11 rfl ?_
      refine A_iload dX11_keptOf_45 rfl ?_
      refine A_iconst (v := 1) dX11_keptOf_47 (by decide) ?_
      refine A_isub dX11_keptOf_48 ?_
      obtain ⟨hg, h⟩ := gV_go h
      refine A_iald dX11_keptOf_49 ia96 hg ?_
      refine A_iload dX11_keptOf_50 rfl ?_
      refine A_icmp_le dX11_keptOf_52 (fun hc => ?_) (fun hc => ?_)
      · have h := gT_go hc h
        exact A_le (lvLe_s (lvLe_s (lvLe_s (lvLe_s (lvLe_s (lvLe_s (lvLe_s (lvLe_n (lvLe_n (lvLe_n (lvLe_n lvLe_0))))))))))) (hK36 _ _ h)
      · have h := gF_go hc h
        refine A_aload_n dX11_keptOf_55 rfl ?_
        refine A_getf dX11_keptOf_56 fw_X11_108 ob11 rfl ?_
        refine A_iload dX11_keptOf_59 rfl ?_
        refine A_aload_n dX11_keptOf_61 rfl ?_
        refine A_getf dX11_keptOf_62 fw_X11_108 ob11 rfl ?_
        refine A_iload dX11_keptOf_65 rfl ?_
        refine A_iconst (v := 1) dX11_keptOf_67 (by decide) ?_
        refine A_isub dX11_keptOf_68 ?_
        obtain ⟨hg, h⟩ := gV_go h
        refine A_iald dX11_keptOf_69 ia96 hg ?_
        obtain ⟨hg, h⟩ := gV_go h
        refine A_iast dX11_keptOf_70 ia96 hg (bM_go h (fun M6 h => ?_))
        refine A_iinc6 (d := -1) dX11_keptOf_71 (by decide) (by decide) rfl ?_
        refine A_goto dX11_keptOf_74 ?_
        exact A_le (lvLe_s (lvLe_s (lvLe_s (lvLe_s (lvLe_s (lvLe_s (lvLe_s (lvLe_n (lvLe_n (lvLe_n (lvLe_n lvLe_0))))))))))) (ih36 _ _ K36 h hK36)
def f_X11_keptOf_L5 (v1 : Int32) (v2 : Int32) : Nat → Int32 → Int32 → Mem → (Int32 → Int32 → Mem → Option Ret) → Option Ret
  | 0, _, _, _, _ => none
  | k5 + 1, v3, v4, M, K5 => if (M.1 11 7) ≤ v4 then (K5 v3 v4 M) else (gV v4 60 (jn (α := Int32 → Mem → Option Ret) (fun (y2 : Int32) (M3 : Mem) => f_X11_keptOf_L5 v1 v2 k5 y2 (v4 + (1 : Int32)) M3 K5) (fun J1 => if (M.1 69 v4.toNatClampNeg) = v1 then (bE (f_X11_normalOf v4 M) (fun r5 M4 => f_X11_keptOf_L36 v1 v2 v3 v4 r5 FU v3 M4 (fun w7 M8 => gV w7 60 (bM (up2 M8 96 w7.toNatClampNeg r5) (fun M9 => J1 (v3 + (1 : Int32)) M9))))) else (J1 v3 M))))
set_option maxRecDepth 100000 in
theorem f_X11_keptOf_L5_ok {l : Launch} {g : Cx} (v1 : Int32) (v2 : Int32)  {r : Int32} {Mr : Mem} : ∀ (k : Nat) (v3 : Int32) (v4 : Int32) (M : Mem) (K5 : Int32 → Int32 → Mem → Option Ret), f_X11_keptOf_L5 v1 v2 k v3 v4 M K5 = some (r, Mr) → (∀ (v3 : Int32) (v4 : Int32) (M : Mem), K5 v3 v4 M = some (r, Mr) → AT l g RX11 cX11_keptOf 11 (some .int) (rmM 2 46) (PI r Mr) 95 [some (.ref (g.1 11)), some (.int v1), some (.int v2), some (.int v3), some (.int v4), none, none, none, none, none, none] [] M) → AT l g RX11 cX11_keptOf 11 (some .int) (rmM 2 46) (PI r Mr) 5 [some (.ref (g.1 11)), some (.int v1), some (.int v2), some (.int v3), some (.int v4), none, none, none, none, none, none] [] M
  | 0, v3, v4, M, K5, h, hK5 => by cases h
  | k5 + 1, v3, v4, M, K5, h, hK5 => by
    have ih5 := f_X11_keptOf_L5_ok (l := l) (g := g) v1 v2 (r := r) (Mr := Mr) k5
    rw [f_X11_keptOf_L5] at h
    refine A_iload dX11_keptOf_5 rfl ?_
    refine A_aload_n dX11_keptOf_7 rfl ?_
    refine A_getf dX11_keptOf_8 fw_X11_157 ob11 rfl ?_
    refine A_icmp_ge dX11_keptOf_11 (fun hc => ?_) (fun hc => ?_)
    · have h := gT_go hc h
      exact A_le (lvLe_s (lvLe_s (lvLe_s (lvLe_s (lvLe_s (lvLe_n (lvLe_n (lvLe_n (lvLe_n (lvLe_n (lvLe_n lvLe_0))))))))))) (hK5 _ _ _ h)
    · have h := gF_go hc h
      refine A_aload_n dX11_keptOf_14 rfl ?_
      refine A_getf dX11_keptOf_15 fw_X11_26 ob11 rfl ?_
      refine A_iload dX11_keptOf_18 rfl ?_
      obtain ⟨hg, h⟩ := gV_go h
      refine A_iald dX11_keptOf_20 ia69 hg ?_
      refine A_iload_n dX11_keptOf_21 rfl ?_
      obtain ⟨J1, hJ1, h⟩ := jn_go h
      have JJ1 : ∀ (y2 : Int32) (M3 : Mem), J1 y2 M3 = some (r, Mr) → AT l g RX11 cX11_keptOf 11 (some .int) (rmM 2 46) (PI r Mr) 89 [some (.ref (g.1 11)), some (.int v1), some (.int v2), some (.int y2), some (.int v4), none, none, none, none, none, none] [] M3 := by
        intro y2 M3 h
        rw [hJ1] at h
        refine A_iinc4 (d := 1) dX11_keptOf_89 (by decide) (by decide) rfl ?_
        refine A_goto dX11_keptOf_92 ?_
        exact A_le (lvLe_s (lvLe_s (lvLe_s (lvLe_s (lvLe_s (lvLe_n (lvLe_n (lvLe_n (lvLe_n (lvLe_n (lvLe_n lvLe_0))))))))))) (ih5 _ _ _ K5 h hK5)
      refine A_icmp_ne dX11_keptOf_22 (fun hc => ?_) (fun hc => ?_)
      · have h := gF_go hc h
        exact A_le (lvLe_s (lvLe_s (lvLe_s (lvLe_s (lvLe_s (lvLe_n (lvLe_n (lvLe_n (lvLe_n (lvLe_n (lvLe_n lvLe_0))))))))))) (JJ1 _ _ h)
      · have h := gT_go hc h
        refine A_aload_n dX11_keptOf_25 rfl ?_
        refine A_iload dX11_keptOf_26 rfl ?_
        obtain ⟨r5, M4, h1, h⟩ := bE_go h
        refine A_cVi1 dX11_keptOf_28 ml_X11_160 mb_X11_normalOf mi_X11_normalOf ob11 rfl rfl ⟨Nat.le_of_ble_eq_true rfl, Nat.le_of_ble_eq_true rfl⟩ (Nat.le_of_ble_eq_true rfl) (ok_X11_normalOf h1) ?_
        refine A_istore5 dX11_keptOf_31 (by decide) rfl ?_
        refine A_iload_n dX11_keptOf_33 rfl ?_
        refine A_istore6 dX11_keptOf_34 (by decide) rfl ?_
        refine f_X11_keptOf_L36_ok _ _ _ _ _ FU _ _ _ h (fun w7 M8 h => ?_)
        refine A_aload_n dX11_keptOf_77 rfl ?_
        refine A_getf dX11_keptOf_78 fw_X11_108 ob11 rfl ?_
        refine A_iload dX11_keptOf_81 rfl ?_
        refine A_iload dX11_keptOf_83 rfl ?_
        obtain ⟨hg, h⟩ := gV_go h
        refine A_iast dX11_keptOf_85 ia96 hg (bM_go h (fun M9 h => ?_))
        refine A_iinc3 (d := 1) dX11_keptOf_86 (by decide) (by decide) rfl ?_
        exact A_le (lvLe_s (lvLe_s (lvLe_s (lvLe_s (lvLe_s (lvLe_n (lvLe_n (lvLe_n (lvLe_n (lvLe_n (lvLe_n lvLe_0))))))))))) (JJ1 _ _ h)
def f_X11_keptOf_L122 (v1 : Int32) (v2 : Int32) (v3 : Int32) (v4 : Int32) : Nat → Int32 → Int32 → Int32 → Int32 → Int32 → Mem → (Int32 → Int32 → Int32 → Int32 → Int32 → Mem → Option Ret) → Option Ret
  | 0, _, _, _, _, _, _, _ => none
  | k122 + 1, v5, v6, v7, v8, v9, M, K122 => if v3 ≤ v9 then (K122 v5 v6 v7 v8 v9 M) else (gV v9 60 (jn (α := Int32 → Option Ret) (fun (z15 : Int32) => jn (α := Int32 → Int32 → Int32 → Int32 → Option Ret) (fun (y17 : Int32) (y18 : Int32) (y19 : Int32) (y20 : Int32) => f_X11_keptOf_L122 v1 v2 v3 v4 k122 y17 y18 y19 y20 (v9 + (1 : Int32)) M K122) (fun J16 => if (v4 / (4 : Int32)) < z15 then (J16 v5 v6 v7 v8) else (gV v9 60 (bI (v6 + (M.1 96 v9.toNatClampNeg)) (fun x21 => jn (α := Int32 → Option Ret) (fun (z23 : Int32) => gV v9 60 (bI (M.1 96 v9.toNatClampNeg) (fun x24 => J16 (v5 + (1 : Int32)) x21 z23 x24))) (fun J22 => if 0 ≤ v7 then (J22 v7) else (gV v9 60 (J22 (M.1 96 v9.toNatClampNeg))))))))) (fun J14 => if v4 ≤ (M.1 96 v9.toNatClampNeg) then (gV v9 60 (J14 ((M.1 96 v9.toNatClampNeg) - v4))) else (gV v9 60 (J14 (v4 - (M.1 96 v9.toNatClampNeg)))))))
set_option maxRecDepth 100000 in
theorem f_X11_keptOf_L122_ok {l : Launch} {g : Cx} (v1 : Int32) (v2 : Int32) (v3 : Int32) (v4 : Int32)  {r : Int32} {Mr : Mem} : ∀ (k : Nat) (v5 : Int32) (v6 : Int32) (v7 : Int32) (v8 : Int32) (v9 : Int32) (M : Mem) (K122 : Int32 → Int32 → Int32 → Int32 → Int32 → Mem → Option Ret), f_X11_keptOf_L122 v1 v2 v3 v4 k v5 v6 v7 v8 v9 M K122 = some (r, Mr) → (∀ (v5 : Int32) (v6 : Int32) (v7 : Int32) (v8 : Int32) (v9 : Int32) (M : Mem), K122 v5 v6 v7 v8 v9 M = some (r, Mr) → AT l g RX11 cX11_keptOf 11 (some .int) (rmM 2 46) (PI r Mr) 223 [some (.ref (g.1 11)), some (.int v1), some (.int v2), some (.int v3), some (.int v4), some (.int v5), some (.int v6), some (.int v7), some (.int v8), some (.int v9), none] [] M) → AT l g RX11 cX11_keptOf 11 (some .int) (rmM 2 46) (PI r Mr) 122 [some (.ref (g.1 11)), some (.int v1), some (.int v2), some (.int v3), some (.int v4), some (.int v5), some (.int v6), some (.int v7), some (.int v8), some (.int v9), none] [] M
  | 0, v5, v6, v7, v8, v9, M, K122, h, hK122 => by cases h
  | k122 + 1, v5, v6, v7, v8, v9, M, K122, h, hK122 => by
    have ih122 := f_X11_keptOf_L122_ok (l := l) (g := g) v1 v2 v3 v4 (r := r) (Mr := Mr) k122
    rw [f_X11_keptOf_L122] at h
    refine A_iload dX11_keptOf_122 rfl ?_
    refine A_iload_n dX11_keptOf_124 rfl ?_
    refine A_icmp_ge dX11_keptOf_125 (fun hc => ?_) (fun hc => ?_)
    · have h := gT_go hc h
      exact A_le (lvLe_s (lvLe_s (lvLe_s (lvLe_s (lvLe_s (lvLe_s (lvLe_s (lvLe_s (lvLe_s (lvLe_s (lvLe_n lvLe_0))))))))))) (hK122 _ _ _ _ _ _ h)
    · have h := gF_go hc h
      refine A_aload_n dX11_keptOf_128 rfl ?_
      refine A_getf dX11_keptOf_129 fw_X11_108 ob11 rfl ?_
      refine A_iload dX11_keptOf_132 rfl ?_
      obtain ⟨hg, h⟩ := gV_go h
      refine A_iald dX11_keptOf_134 ia96 hg ?_
      refine A_iload dX11_keptOf_135 rfl ?_
      obtain ⟨J14, hJ14, h⟩ := jn_go h
      have JJ14 : ∀ (z15 : Int32), J14 z15 = some (r, Mr) → AT l g RX11 cX11_keptOf 11 (some .int) (rmM 2 46) (PI r Mr) 163 [some (.ref (g.1 11)), some (.int v1), some (.int v2), some (.int v3), some (.int v4), some (.int v5), some (.int v6), some (.int v7), some (.int v8), some (.int v9), none] [.int z15] M := by
        intro z15 h
        rw [hJ14] at h
        refine A_istore10 dX11_keptOf_163 (by decide) rfl ?_
        refine A_iload dX11_keptOf_165 rfl ?_
        refine A_iload dX11_keptOf_167 rfl ?_
        refine A_iconst (v := 4) dX11_keptOf_169 (by decide) ?_
        refine A_idiv dX11_keptOf_170 (by decide) ?_
        obtain ⟨J16, hJ16, h⟩ := jn_go h
        have JJ16 : ∀ (y17 : Int32) (y18 : Int32) (y19 : Int32) (y20 : Int32), J16 y17 y18 y19 y20 = some (r, Mr) → AT l g RX11 cX11_keptOf 11 (some .int) (rmM 2 46) (PI r Mr) 217 [some (.ref (g.1 11)), some (.int v1), some (.int v2), some (.int v3), some (.int v4), some (.int y17), some (.int y18), some (.int y19), some (.int y20), some (.int v9), some (.int z15)] [] M := by
          intro y17 y18 y19 y20 h
          rw [hJ16] at h
          refine A_iinc9 (d := 1) dX11_keptOf_217 (by decide) (by decide) rfl ?_
          refine A_goto dX11_keptOf_220 ?_
          exact A_le (lvLe_s (lvLe_s (lvLe_s (lvLe_s (lvLe_s (lvLe_s (lvLe_s (lvLe_s (lvLe_s (lvLe_s (lvLe_n lvLe_0))))))))))) (ih122 _ _ _ _ _ _ K122 h hK122)
        refine A_icmp_gt dX11_keptOf_171 (fun hc => ?_) (fun hc => ?_)
        · have h := gT_go hc h
          exact A_le (lvLe_s (lvLe_s (lvLe_s (lvLe_s (lvLe_s (lvLe_s (lvLe_s (lvLe_s (lvLe_s (lvLe_s (lvLe_s lvLe_0))))))))))) (JJ16 _ _ _ _ h)
        · have h := gF_go hc h
          refine A_iinc5 (d := 1) dX11_keptOf_174 (by decide) (by decide) rfl ?_
          refine A_iload dX11_keptOf_177 rfl ?_
          refine A_aload_n dX11_keptOf_179 rfl ?_
          refine A_getf dX11_keptOf_180 fw_X11_108 ob11 rfl ?_
          refine A_iload dX11_keptOf_183 rfl ?_
          obtain ⟨hg, h⟩ := gV_go h
          refine A_iald dX11_keptOf_185 ia96 hg ?_
          refine A_iadd dX11_keptOf_186 ?_
          refine A_istore6 dX11_keptOf_187 (by decide) rfl (bI_go h (G := fun z => AT l g RX11 cX11_keptOf 11 (some .int) (rmM 2 46) (PI r Mr) 189 [some (.ref (g.1 11)), some (.int v1), some (.int v2), some (.int v3), some (.int v4), some (.int (v5 + (1 : Int32))), some (.int z), some (.int v7), some (.int v8), some (.int v9), some (.int z15)] [] M) (fun x21 h => ?_))
          refine A_iload dX11_keptOf_189 rfl ?_
          obtain ⟨J22, hJ22, h⟩ := jn_go h
          have JJ22 : ∀ (z23 : Int32), J22 z23 = some (r, Mr) → AT l g RX11 cX11_keptOf 11 (some .int) (rmM 2 46) (PI r Mr) 206 [some (.ref (g.1 11)), some (.int v1), some (.int v2), some (.int v3), some (.int v4), some (.int (v5 + (1 : Int32))), some (.int x21), some (.int v7), some (.int v8), some (.int v9), some (.int z15)] [.int z23] M := by
            intro z23 h
            rw [hJ22] at h
            refine A_istore7 dX11_keptOf_206 (by decide) rfl ?_
            refine A_aload_n dX11_keptOf_208 rfl ?_
            refine A_getf dX11_keptOf_209 fw_X11_108 ob11 rfl ?_
            refine A_iload dX11_keptOf_212 rfl ?_
            obtain ⟨hg, h⟩ := gV_go h
            refine A_iald dX11_keptOf_214 ia96 hg ?_
            refine A_istore8 dX11_keptOf_215 (by decide) rfl (bI_go h (G := fun z => AT l g RX11 cX11_keptOf 11 (some .int) (rmM 2 46) (PI r Mr) 217 [some (.ref (g.1 11)), some (.int v1), some (.int v2), some (.int v3), some (.int v4), some (.int (v5 + (1 : Int32))), some (.int x21), some (.int z23), some (.int z), some (.int v9), some (.int z15)] [] M) (fun x24 h => ?_))
            exact A_le (lvLe_s (lvLe_s (lvLe_s (lvLe_s (lvLe_s (lvLe_s (lvLe_s (lvLe_s (lvLe_s (lvLe_s (lvLe_s lvLe_0))))))))))) (JJ16 _ _ _ _ h)
          refine A_if_ge dX11_keptOf_191 (fun hc => ?_) (fun hc => ?_)
          · have h := gT_go hc h
            refine A_iload dX11_keptOf_204 rfl ?_
            exact A_le (lvLe_s (lvLe_s (lvLe_s (lvLe_s (lvLe_s (lvLe_s (lvLe_s (lvLe_s (lvLe_s (lvLe_s (lvLe_s lvLe_0))))))))))) (JJ22 _ h)
          · have h := gF_go hc h
            refine A_aload_n dX11_keptOf_194 rfl ?_
            refine A_getf dX11_keptOf_195 fw_X11_108 ob11 rfl ?_
            refine A_iload dX11_keptOf_198 rfl ?_
            obtain ⟨hg, h⟩ := gV_go h
            refine A_iald dX11_keptOf_200 ia96 hg ?_
            refine A_goto dX11_keptOf_201 ?_
            exact A_le (lvLe_s (lvLe_s (lvLe_s (lvLe_s (lvLe_s (lvLe_s (lvLe_s (lvLe_s (lvLe_s (lvLe_s (lvLe_s lvLe_0))))))))))) (JJ22 _ h)
      refine A_icmp_ge dX11_keptOf_137 (fun hc => ?_) (fun hc => ?_)
      · have h := gT_go hc h
        refine A_aload_n dX11_keptOf_153 rfl ?_
        refine A_getf dX11_keptOf_154 fw_X11_108 ob11 rfl ?_
        refine A_iload dX11_keptOf_157 rfl ?_
        obtain ⟨hg, h⟩ := gV_go h
        refine A_iald dX11_keptOf_159 ia96 hg ?_
        refine A_iload dX11_keptOf_160 rfl ?_
        refine A_isub dX11_keptOf_162 ?_
        exact A_le (lvLe_s (lvLe_s (lvLe_s (lvLe_s (lvLe_s (lvLe_s (lvLe_s (lvLe_s (lvLe_s (lvLe_s (lvLe_n lvLe_0))))))))))) (JJ14 _ h)
      · have h := gF_go hc h
        refine A_iload dX11_keptOf_140 rfl ?_
        refine A_aload_n dX11_keptOf_142 rfl ?_
        refine A_getf dX11_keptOf_143 fw_X11_108 ob11 rfl ?_
        refine A_iload dX11_keptOf_146 rfl ?_
        obtain ⟨hg, h⟩ := gV_go h
        refine A_iald dX11_keptOf_148 ia96 hg ?_
        refine A_isub dX11_keptOf_149 ?_
        refine A_goto dX11_keptOf_150 ?_
        exact A_le (lvLe_s (lvLe_s (lvLe_s (lvLe_s (lvLe_s (lvLe_s (lvLe_s (lvLe_s (lvLe_s (lvLe_s (lvLe_n lvLe_0))))))))))) (JJ14 _ h)
def f_X11_keptOf (v1 : Int32) (v2 : Int32) (M : Mem) : Option Ret := f_X11_keptOf_L5 v1 v2 FU (0 : Int32) (0 : Int32) M (fun w10 w11 M12 => gV ((w10 - (1 : Int32)) / (2 : Int32)) 60 (bI (M12.1 96 ((w10 - (1 : Int32)) / (2 : Int32)).toNatClampNeg) (fun x13 => f_X11_keptOf_L122 v1 v2 w10 x13 FU (0 : Int32) (0 : Int32) (-1 : Int32) (-1 : Int32) (0 : Int32) M12 (fun w25 w26 w27 w28 w29 M30 => jn (α := Int32 → Option Ret) (fun (z32 : Int32) => some (z32, M30)) (fun J31 => if v2 = (2 : Int32) then (J31 w25) else (if v2 = (3 : Int32) then (gN w25 (J31 (w26 / w25))) else (if v2 = (5 : Int32) then (J31 w27) else (J31 w28))))))))
set_option maxRecDepth 100000 in
theorem ok_X11_keptOf {l : Launch} {g : Cx} {v1 : Int32} {v2 : Int32} {M : Mem} {r : Int32} {Mr : Mem} (h : f_X11_keptOf v1 v2 M = some (r, Mr)) : CT l g yX11_keptOf cX11_keptOf 11 (some .int) 2 46 [.ref (g.1 11), .int v1, .int v2] M (PI r Mr) := by
  refine CT_of (lv := [some (.ref (g.1 11)), some (.int v1), some (.int v2), none, none, none, none, none, none, none, none]) (by decide) rfl (Nat.le_of_ble_eq_true rfl) ?_
  unfold f_X11_keptOf at h
  refine A_iconst (v := 0) dX11_keptOf_0 (by decide) ?_
  refine A_istoren3 dX11_keptOf_1 (by decide) rfl ?_
  refine A_iconst (v := 0) dX11_keptOf_2 (by decide) ?_
  refine A_istore4 dX11_keptOf_3 (by decide) rfl ?_
  refine f_X11_keptOf_L5_ok _ _ FU _ _ _ _ h (fun w10 w11 M12 h => ?_)
  refine A_aload_n dX11_keptOf_95 rfl ?_
  refine A_getf dX11_keptOf_96 fw_X11_108 ob11 rfl ?_
  refine A_iload_n dX11_keptOf_99 rfl ?_
  refine A_iconst (v := 1) dX11_keptOf_100 (by decide) ?_
  refine A_isub dX11_keptOf_101 ?_
  refine A_iconst (v := 2) dX11_keptOf_102 (by decide) ?_
  refine A_idiv dX11_keptOf_103 (by decide) ?_
  obtain ⟨hg, h⟩ := gV_go h
  refine A_iald dX11_keptOf_104 ia96 hg ?_
  refine A_istore4 dX11_keptOf_105 (by decide) rfl (bI_go h (G := fun z => AT l g RX11 cX11_keptOf 11 (some .int) (rmM 2 46) (PI r Mr) 107 [some (.ref (g.1 11)), some (.int v1), some (.int v2), some (.int w10), some (.int z), none, none, none, none, none, none] [] M12) (fun x13 h => ?_))
  refine A_iconst (v := 0) dX11_keptOf_107 (by decide) ?_
  refine A_istore5 dX11_keptOf_108 (by decide) rfl ?_
  refine A_iconst (v := 0) dX11_keptOf_110 (by decide) ?_
  refine A_istore6 dX11_keptOf_111 (by decide) rfl ?_
  refine A_iconst (v := -1) dX11_keptOf_113 (by decide) ?_
  refine A_istore7 dX11_keptOf_114 (by decide) rfl ?_
  refine A_iconst (v := -1) dX11_keptOf_116 (by decide) ?_
  refine A_istore8 dX11_keptOf_117 (by decide) rfl ?_
  refine A_iconst (v := 0) dX11_keptOf_119 (by decide) ?_
  refine A_istore9 dX11_keptOf_120 (by decide) rfl ?_
  refine f_X11_keptOf_L122_ok _ _ _ _ FU _ _ _ _ _ _ _ h (fun w25 w26 w27 w28 w29 M30 h => ?_)
  refine A_iload_n dX11_keptOf_223 rfl ?_
  refine A_iconst (v := 2) dX11_keptOf_224 (by decide) ?_
  obtain ⟨J31, hJ31, h⟩ := jn_go h
  have JJ31 : ∀ (z32 : Int32), J31 z32 = some (r, Mr) → AT l g RX11 cX11_keptOf 11 (some .int) (rmM 2 46) (PI r Mr) 258 [some (.ref (g.1 11)), some (.int v1), some (.int v2), some (.int w10), some (.int x13), some (.int w25), some (.int w26), some (.int w27), some (.int w28), some (.int w29), none] [.int z32] M30 := by
    intro z32 h
    rw [hJ31] at h
    exact A_iret dX11_keptOf_258 (pI_go h)
  refine A_icmp_ne dX11_keptOf_225 (fun hc => ?_) (fun hc => ?_)
  · have h := gF_go hc h
    refine A_iload_n dX11_keptOf_233 rfl ?_
    refine A_iconst (v := 3) dX11_keptOf_234 (by decide) ?_
    refine A_icmp_ne dX11_keptOf_235 (fun hc => ?_) (fun hc => ?_)
    · have h := gF_go hc h
      refine A_iload_n dX11_keptOf_246 rfl ?_
      refine A_iconst (v := 5) dX11_keptOf_247 (by decide) ?_
      refine A_icmp_ne dX11_keptOf_248 (fun hc => ?_) (fun hc => ?_)
      · have h := gF_go hc h
        refine A_iload dX11_keptOf_256 rfl ?_
        exact A_le (lvLe_s (lvLe_s (lvLe_s (lvLe_s (lvLe_s (lvLe_s (lvLe_s (lvLe_s (lvLe_s (lvLe_s (lvLe_n lvLe_0))))))))))) (JJ31 _ h)
      · have h := gT_go hc h
        refine A_iload dX11_keptOf_251 rfl ?_
        refine A_goto dX11_keptOf_253 ?_
        exact A_le (lvLe_s (lvLe_s (lvLe_s (lvLe_s (lvLe_s (lvLe_s (lvLe_s (lvLe_s (lvLe_s (lvLe_s (lvLe_n lvLe_0))))))))))) (JJ31 _ h)
    · have h := gT_go hc h
      refine A_iload dX11_keptOf_238 rfl ?_
      refine A_iload dX11_keptOf_240 rfl ?_
      obtain ⟨hg, h⟩ := gN_go h
      refine A_idiv dX11_keptOf_242 hg ?_
      refine A_goto dX11_keptOf_243 ?_
      exact A_le (lvLe_s (lvLe_s (lvLe_s (lvLe_s (lvLe_s (lvLe_s (lvLe_s (lvLe_s (lvLe_s (lvLe_s (lvLe_n lvLe_0))))))))))) (JJ31 _ h)
  · have h := gT_go hc h
    refine A_iload dX11_keptOf_228 rfl ?_
    refine A_goto dX11_keptOf_230 ?_
    exact A_le (lvLe_s (lvLe_s (lvLe_s (lvLe_s (lvLe_s (lvLe_s (lvLe_s (lvLe_s (lvLe_s (lvLe_s (lvLe_n lvLe_0))))))))))) (JJ31 _ h)
-- BenchTimesModel.standardOf
theorem dX11_standardOf_0 : di cX11_standardOf 0 (.aload_n 0) 1 1 := ⟨by decide +kernel, rfl⟩
theorem dX11_standardOf_1 : di cX11_standardOf 1 (.iload_n 1) 1 2 := ⟨by decide +kernel, rfl⟩
theorem dX11_standardOf_2 : di cX11_standardOf 2 (.iconst 3) 1 3 := ⟨by decide +kernel, rfl⟩
theorem dX11_standardOf_3 : di cX11_standardOf 3 (.invokevirtual 163) 3 6 := ⟨by decide +kernel, rfl⟩
theorem dX11_standardOf_6 : di cX11_standardOf 6 (.bipush 100) 2 8 := ⟨by decide +kernel, rfl⟩
theorem dX11_standardOf_8 : di cX11_standardOf 8 (.aload_n 0) 1 9 := ⟨by decide +kernel, rfl⟩
theorem dX11_standardOf_9 : di cX11_standardOf 9 (.iload_n 1) 1 10 := ⟨by decide +kernel, rfl⟩
theorem dX11_standardOf_10 : di cX11_standardOf 10 (.invokevirtual 145) 3 13 := ⟨by decide +kernel, rfl⟩
theorem dX11_standardOf_13 : di cX11_standardOf 13 (.iadd) 1 14 := ⟨by decide +kernel, rfl⟩
theorem dX11_standardOf_14 : di cX11_standardOf 14 (.imul) 1 15 := ⟨by decide +kernel, rfl⟩
theorem dX11_standardOf_15 : di cX11_standardOf 15 (.istore_n 2) 1 16 := ⟨by decide +kernel, rfl⟩
theorem dX11_standardOf_16 : di cX11_standardOf 16 (.iload_n 2) 1 17 := ⟨by decide +kernel, rfl⟩
theorem dX11_standardOf_17 : di cX11_standardOf 17 (.bipush 100) 2 19 := ⟨by decide +kernel, rfl⟩
theorem dX11_standardOf_19 : di cX11_standardOf 19 (.idiv) 1 20 := ⟨by decide +kernel, rfl⟩
theorem dX11_standardOf_20 : di cX11_standardOf 20 (.iload_n 2) 1 21 := ⟨by decide +kernel, rfl⟩
theorem dX11_standardOf_21 : di cX11_standardOf 21 (.bipush 100) 2 23 := ⟨by decide +kernel, rfl⟩
theorem dX11_standardOf_23 : di cX11_standardOf 23 (.irem) 1 24 := ⟨by decide +kernel, rfl⟩
theorem dX11_standardOf_24 : dj cX11_standardOf 24 (.ifCond .le) 27 31 := ⟨7, by decide +kernel, rfl, rfl⟩
theorem dX11_standardOf_27 : di cX11_standardOf 27 (.iconst 1) 1 28 := ⟨by decide +kernel, rfl⟩
theorem dX11_standardOf_28 : dj cX11_standardOf 28 .goto 31 32 := ⟨4, by decide +kernel, rfl, rfl⟩
theorem dX11_standardOf_31 : di cX11_standardOf 31 (.iconst 0) 1 32 := ⟨by decide +kernel, rfl⟩
theorem dX11_standardOf_32 : di cX11_standardOf 32 (.iadd) 1 33 := ⟨by decide +kernel, rfl⟩
theorem dX11_standardOf_33 : di cX11_standardOf 33 (.ireturn) 1 34 := ⟨by decide +kernel, rfl⟩
def f_X11_standardOf (v1 : Int32) (M : Mem) : Option Ret := bE (f_X11_keptOf v1 (3 : Int32) M) (fun r2 M1 => bE (f_X11_allowanceOf v1 M1) (fun r4 M3 => bI (r2 * ((100 : Int32) + r4)) (fun x5 => jn (α := Int32 → Option Ret) (fun (z7 : Int32) => some ((x5 / (100 : Int32)) + z7, M3)) (fun J6 => if (x5 - x5 / (100 : Int32) * (100 : Int32)) ≤ 0 then (J6 (0 : Int32)) else (J6 (1 : Int32))))))
set_option maxRecDepth 100000 in
theorem ok_X11_standardOf {l : Launch} {g : Cx} {v1 : Int32} {M : Mem} {r : Int32} {Mr : Mem} (h : f_X11_standardOf v1 M = some (r, Mr)) : CT l g yX11_standardOf cX11_standardOf 3 (some .int) 3 76 [.ref (g.1 11), .int v1] M (PI r Mr) := by
  refine CT_of (lv := [some (.ref (g.1 11)), some (.int v1), none]) (by decide) rfl (Nat.le_of_ble_eq_true rfl) ?_
  unfold f_X11_standardOf at h
  refine A_aload_n dX11_standardOf_0 rfl ?_
  refine A_iload_n dX11_standardOf_1 rfl ?_
  refine A_iconst (v := 3) dX11_standardOf_2 (by decide) ?_
  obtain ⟨r2, M1, h1, h⟩ := bE_go h
  refine A_cVi2 dX11_standardOf_3 ml_X11_163 mb_X11_keptOf mi_X11_keptOf ob11 rfl rfl ⟨Nat.le_of_ble_eq_true rfl, Nat.le_of_ble_eq_true rfl⟩ (Nat.le_of_ble_eq_true rfl) (ok_X11_keptOf h1) ?_
  refine A_bipush (v := 100) dX11_standardOf_6 (by decide) ?_
  refine A_aload_n dX11_standardOf_8 rfl ?_
  refine A_iload_n dX11_standardOf_9 rfl ?_
  obtain ⟨r4, M3, h1, h⟩ := bE_go h
  refine A_cVi1 dX11_standardOf_10 ml_X11_145 mb_X11_allowanceOf mi_X11_allowanceOf ob11 rfl rfl ⟨Nat.le_of_ble_eq_true rfl, Nat.le_of_ble_eq_true rfl⟩ (Nat.le_of_ble_eq_true rfl) (ok_X11_allowanceOf h1) ?_
  refine A_iadd dX11_standardOf_13 ?_
  refine A_imul dX11_standardOf_14 ?_
  refine A_istoren2 dX11_standardOf_15 (by decide) rfl (bI_go h (G := fun z => AT l g RX11 cX11_standardOf 3 (some .int) (rmM 3 76) (PI r Mr) 16 [some (.ref (g.1 11)), some (.int v1), some (.int z)] [] M3) (fun x5 h => ?_))
  refine A_iload_n dX11_standardOf_16 rfl ?_
  refine A_bipush (v := 100) dX11_standardOf_17 (by decide) ?_
  refine A_idiv dX11_standardOf_19 (by decide) ?_
  refine A_iload_n dX11_standardOf_20 rfl ?_
  refine A_bipush (v := 100) dX11_standardOf_21 (by decide) ?_
  refine A_irem dX11_standardOf_23 (by decide) ?_
  obtain ⟨J6, hJ6, h⟩ := jn_go h
  have JJ6 : ∀ (z7 : Int32), J6 z7 = some (r, Mr) → AT l g RX11 cX11_standardOf 3 (some .int) (rmM 3 76) (PI r Mr) 32 [some (.ref (g.1 11)), some (.int v1), some (.int x5)] [.int z7, .int (x5 / (100 : Int32))] M3 := by
    intro z7 h
    rw [hJ6] at h
    refine A_iadd dX11_standardOf_32 ?_
    exact A_iret dX11_standardOf_33 (pI_go h)
  refine A_if_le dX11_standardOf_24 (fun hc => ?_) (fun hc => ?_)
  · have h := gT_go hc h
    refine A_iconst (v := 0) dX11_standardOf_31 (by decide) ?_
    exact A_le (lvLe_s (lvLe_s (lvLe_s lvLe_0))) (JJ6 _ h)
  · have h := gF_go hc h
    refine A_iconst (v := 1) dX11_standardOf_27 (by decide) ?_
    refine A_goto dX11_standardOf_28 ?_
    exact A_le (lvLe_s (lvLe_s (lvLe_s lvLe_0))) (JJ6 _ h)
-- BenchTimesModel.of
theorem dX11_of_0 : di cX11_of 0 (.aload_n 0) 1 1 := ⟨by decide +kernel, rfl⟩
theorem dX11_of_1 : di cX11_of 1 (.iload_n 1) 1 2 := ⟨by decide +kernel, rfl⟩
theorem dX11_of_2 : di cX11_of 2 (.invokevirtual 141) 3 5 := ⟨by decide +kernel, rfl⟩
theorem dX11_of_5 : dj cX11_of 5 (.ifCond .eq) 8 18 := ⟨13, by decide +kernel, rfl, rfl⟩
theorem dX11_of_8 : di cX11_of 8 (.iload_n 2) 1 9 := ⟨by decide +kernel, rfl⟩
theorem dX11_of_9 : di cX11_of 9 (.iconst 0) 1 10 := ⟨by decide +kernel, rfl⟩
theorem dX11_of_10 : di cX11_of 10 (.bipush 6) 2 12 := ⟨by decide +kernel, rfl⟩
theorem dX11_of_12 : di cX11_of 12 (.invokestatic 133) 3 15 := ⟨by decide +kernel, rfl⟩
theorem dX11_of_15 : dj cX11_of 15 (.ifCond .ne) 18 24 := ⟨9, by decide +kernel, rfl, rfl⟩
theorem dX11_of_18 : di cX11_of 18 (.aload_n 0) 1 19 := ⟨by decide +kernel, rfl⟩
theorem dX11_of_19 : di cX11_of 19 (.iconst 1) 1 20 := ⟨by decide +kernel, rfl⟩
theorem dX11_of_20 : di cX11_of 20 (.invokevirtual 137) 3 23 := ⟨by decide +kernel, rfl⟩
theorem dX11_of_23 : di cX11_of 23 (.ireturn) 1 24 := ⟨by decide +kernel, rfl⟩
theorem dX11_of_24 : di cX11_of 24 (.iload_n 2) 1 25 := ⟨by decide +kernel, rfl⟩
theorem dX11_of_25 : di cX11_of 25 (.iconst 2) 1 26 := ⟨by decide +kernel, rfl⟩
theorem dX11_of_26 : dj cX11_of 26 (.if_icmp .ge) 29 48 := ⟨22, by decide +kernel, rfl, rfl⟩
theorem dX11_of_29 : di cX11_of 29 (.iload_n 2) 1 30 := ⟨by decide +kernel, rfl⟩
theorem dX11_of_30 : dj cX11_of 30 (.ifCond .ne) 33 42 := ⟨12, by decide +kernel, rfl, rfl⟩
theorem dX11_of_33 : di cX11_of 33 (.aload_n 0) 1 34 := ⟨by decide +kernel, rfl⟩
theorem dX11_of_34 : di cX11_of 34 (.getfield 7) 3 37 := ⟨by decide +kernel, rfl⟩
theorem dX11_of_37 : di cX11_of 37 (.iload_n 1) 1 38 := ⟨by decide +kernel, rfl⟩
theorem dX11_of_38 : di cX11_of 38 (.iaload) 1 39 := ⟨by decide +kernel, rfl⟩
theorem dX11_of_39 : dj cX11_of 39 .goto 42 47 := ⟨8, by decide +kernel, rfl, rfl⟩
theorem dX11_of_42 : di cX11_of 42 (.aload_n 0) 1 43 := ⟨by decide +kernel, rfl⟩
theorem dX11_of_43 : di cX11_of 43 (.iload_n 1) 1 44 := ⟨by decide +kernel, rfl⟩
theorem dX11_of_44 : di cX11_of 44 (.invokevirtual 167) 3 47 := ⟨by decide +kernel, rfl⟩
theorem dX11_of_47 : di cX11_of 47 (.ireturn) 1 48 := ⟨by decide +kernel, rfl⟩
theorem dX11_of_48 : di cX11_of 48 (.aload_n 0) 1 49 := ⟨by decide +kernel, rfl⟩
theorem dX11_of_49 : di cX11_of 49 (.iload_n 1) 1 50 := ⟨by decide +kernel, rfl⟩
theorem dX11_of_50 : di cX11_of 50 (.invokevirtual 167) 3 53 := ⟨by decide +kernel, rfl⟩
theorem dX11_of_53 : dj cX11_of 53 (.ifCond .ne) 56 62 := ⟨9, by decide +kernel, rfl, rfl⟩
theorem dX11_of_56 : di cX11_of 56 (.aload_n 0) 1 57 := ⟨by decide +kernel, rfl⟩
theorem dX11_of_57 : di cX11_of 57 (.iconst 2) 1 58 := ⟨by decide +kernel, rfl⟩
theorem dX11_of_58 : di cX11_of 58 (.invokevirtual 137) 3 61 := ⟨by decide +kernel, rfl⟩
theorem dX11_of_61 : di cX11_of 61 (.ireturn) 1 62 := ⟨by decide +kernel, rfl⟩
theorem dX11_of_62 : di cX11_of 62 (.iload_n 2) 1 63 := ⟨by decide +kernel, rfl⟩
theorem dX11_of_63 : di cX11_of 63 (.iconst 4) 1 64 := ⟨by decide +kernel, rfl⟩
theorem dX11_of_64 : dj cX11_of 64 (.if_icmp .ne) 67 75 := ⟨11, by decide +kernel, rfl, rfl⟩
theorem dX11_of_67 : di cX11_of 67 (.aload_n 0) 1 68 := ⟨by decide +kernel, rfl⟩
theorem dX11_of_68 : di cX11_of 68 (.iload_n 1) 1 69 := ⟨by decide +kernel, rfl⟩
theorem dX11_of_69 : di cX11_of 69 (.invokevirtual 170) 3 72 := ⟨by decide +kernel, rfl⟩
theorem dX11_of_72 : dj cX11_of 72 .goto 75 81 := ⟨9, by decide +kernel, rfl, rfl⟩
theorem dX11_of_75 : di cX11_of 75 (.aload_n 0) 1 76 := ⟨by decide +kernel, rfl⟩
theorem dX11_of_76 : di cX11_of 76 (.iload_n 1) 1 77 := ⟨by decide +kernel, rfl⟩
theorem dX11_of_77 : di cX11_of 77 (.iload_n 2) 1 78 := ⟨by decide +kernel, rfl⟩
theorem dX11_of_78 : di cX11_of 78 (.invokevirtual 163) 3 81 := ⟨by decide +kernel, rfl⟩
theorem dX11_of_81 : di cX11_of 81 (.ireturn) 1 82 := ⟨by decide +kernel, rfl⟩
def f_X11_of (v1 : Int32) (v2 : Int32) (M : Mem) : Option Ret := bE (f_X11_isElement v1 M) (fun r2 M1 => if r2 = 0 then (bE (f_X11_finding (1 : Int32) M1) (fun r4 M3 => some (r4, M3))) else (bE (f_X11_isIn v2 (0 : Int32) (6 : Int32) M1) (fun r6 M5 => if r6 = 0 then (bE (f_X11_finding (1 : Int32) M5) (fun r24 M23 => some (r24, M23))) else (if (2 : Int32) ≤ v2 then (bE (f_X11_cyclesOf v1 M5) (fun r8 M7 => if r8 = 0 then (bE (f_X11_finding (2 : Int32) M7) (fun r17 M16 => some (r17, M16))) else (jn (α := Int32 → Mem → Option Ret) (fun (z10 : Int32) (M11 : Mem) => some (z10, M11)) (fun J9 => if v2 = (4 : Int32) then (bE (f_X11_standardOf v1 M7) (fun r15 M14 => J9 r15 M14)) else (bE (f_X11_keptOf v1 v2 M7) (fun r13 M12 => J9 r13 M12)))))) else (jn (α := Int32 → Mem → Option Ret) (fun (z19 : Int32) (M20 : Mem) => some (z19, M20)) (fun J18 => if v2 = 0 then (gV v1 12 (J18 (M5.1 66 v1.toNatClampNeg) M5)) else (bE (f_X11_cyclesOf v1 M5) (fun r22 M21 => J18 r22 M21))))))))
set_option maxRecDepth 100000 in
theorem ok_X11_of {l : Launch} {g : Cx} {v1 : Int32} {v2 : Int32} {M : Mem} {r : Int32} {Mr : Mem} (h : f_X11_of v1 v2 M = some (r, Mr)) : CT l g yX11_of cX11_of 3 (some .int) 4 98 [.ref (g.1 11), .int v1, .int v2] M (PI r Mr) := by
  refine CT_of (lv := [some (.ref (g.1 11)), some (.int v1), some (.int v2)]) (by decide) rfl (Nat.le_of_ble_eq_true rfl) ?_
  unfold f_X11_of at h
  refine A_aload_n dX11_of_0 rfl ?_
  refine A_iload_n dX11_of_1 rfl ?_
  obtain ⟨r2, M1, h1, h⟩ := bE_go h
  refine A_cVi1 dX11_of_2 ml_X11_141 mb_X11_isElement mi_X11_isElement ob11 rfl rfl ⟨Nat.le_of_ble_eq_true rfl, Nat.le_of_ble_eq_true rfl⟩ (Nat.le_of_ble_eq_true rfl) (ok_X11_isElement h1) ?_
  refine A_if_eq dX11_of_5 (fun hc => ?_) (fun hc => ?_)
  · have h := gT_go hc h
    refine A_aload_n dX11_of_18 rfl ?_
    refine A_iconst (v := 1) dX11_of_19 (by decide) ?_
    obtain ⟨r4, M3, h1, h⟩ := bE_go h
    refine A_cVi1 dX11_of_20 ml_X11_137 mb_X11_finding mi_X11_finding ob11 rfl rfl ⟨Nat.le_of_ble_eq_true rfl, Nat.le_of_ble_eq_true rfl⟩ (Nat.le_of_ble_eq_true rfl) (ok_X11_finding h1) ?_
    exact A_iret dX11_of_23 (pI_go h)
  · have h := gF_go hc h
    refine A_iload_n dX11_of_8 rfl ?_
    refine A_iconst (v := 0) dX11_of_9 (by decide) ?_
    refine A_bipush (v := 6) dX11_of_10 (by decide) ?_
    obtain ⟨r6, M5, h1, h⟩ := bE_go h
    refine A_cSi3 dX11_of_12 ml_X11_133 mb_X11_isIn ms_X11_isIn ⟨Nat.le_of_ble_eq_true rfl, Nat.le_of_ble_eq_true rfl⟩ (Nat.le_of_ble_eq_true rfl) (ok_X11_isIn h1) ?_
    refine A_if_ne dX11_of_15 (fun hc => ?_) (fun hc => ?_)
    · have h := gF_go hc h
      refine A_iload_n dX11_of_24 rfl ?_
      refine A_iconst (v := 2) dX11_of_25 (by decide) ?_
      refine A_icmp_ge dX11_of_26 (fun hc => ?_) (fun hc => ?_)
      · have h := gT_go hc h
        refine A_aload_n dX11_of_48 rfl ?_
        refine A_iload_n dX11_of_49 rfl ?_
        obtain ⟨r8, M7, h1, h⟩ := bE_go h
        refine A_cVi1 dX11_of_50 ml_X11_167 mb_X11_cyclesOf mi_X11_cyclesOf ob11 rfl rfl ⟨Nat.le_of_ble_eq_true rfl, Nat.le_of_ble_eq_true rfl⟩ (Nat.le_of_ble_eq_true rfl) (ok_X11_cyclesOf h1) ?_
        refine A_if_ne dX11_of_53 (fun hc => ?_) (fun hc => ?_)
        · have h := gF_go hc h
          refine A_iload_n dX11_of_62 rfl ?_
          refine A_iconst (v := 4) dX11_of_63 (by decide) ?_
          obtain ⟨J9, hJ9, h⟩ := jn_go h
          have JJ9 : ∀ (z10 : Int32) (M11 : Mem), J9 z10 M11 = some (r, Mr) → AT l g RX11 cX11_of 3 (some .int) (rmM 4 98) (PI r Mr) 81 [some (.ref (g.1 11)), some (.int v1), some (.int v2)] [.int z10] M11 := by
            intro z10 M11 h
            rw [hJ9] at h
            exact A_iret dX11_of_81 (pI_go h)
          refine A_icmp_ne dX11_of_64 (fun hc => ?_) (fun hc => ?_)
          · have h := gF_go hc h
            refine A_aload_n dX11_of_75 rfl ?_
            refine A_iload_n dX11_of_76 rfl ?_
            refine A_iload_n dX11_of_77 rfl ?_
            obtain ⟨r13, M12, h1, h⟩ := bE_go h
            refine A_cVi2 dX11_of_78 ml_X11_163 mb_X11_keptOf mi_X11_keptOf ob11 rfl rfl ⟨Nat.le_of_ble_eq_true rfl, Nat.le_of_ble_eq_true rfl⟩ (Nat.le_of_ble_eq_true rfl) (ok_X11_keptOf h1) ?_
            exact A_le (lvLe_s (lvLe_s (lvLe_s lvLe_0))) (JJ9 _ _ h)
          · have h := gT_go hc h
            refine A_aload_n dX11_of_67 rfl ?_
            refine A_iload_n dX11_of_68 rfl ?_
            obtain ⟨r15, M14, h1, h⟩ := bE_go h
            refine A_cVi1 dX11_of_69 ml_X11_170 mb_X11_standardOf mi_X11_standardOf ob11 rfl rfl ⟨Nat.le_of_ble_eq_true rfl, Nat.le_of_ble_eq_true rfl⟩ (Nat.le_of_ble_eq_true rfl) (ok_X11_standardOf h1) ?_
            refine A_goto dX11_of_72 ?_
            exact A_le (lvLe_s (lvLe_s (lvLe_s lvLe_0))) (JJ9 _ _ h)
        · have h := gT_go hc h
          refine A_aload_n dX11_of_56 rfl ?_
          refine A_iconst (v := 2) dX11_of_57 (by decide) ?_
          obtain ⟨r17, M16, h1, h⟩ := bE_go h
          refine A_cVi1 dX11_of_58 ml_X11_137 mb_X11_finding mi_X11_finding ob11 rfl rfl ⟨Nat.le_of_ble_eq_true rfl, Nat.le_of_ble_eq_true rfl⟩ (Nat.le_of_ble_eq_true rfl) (ok_X11_finding h1) ?_
          exact A_iret dX11_of_61 (pI_go h)
      · have h := gF_go hc h
        refine A_iload_n dX11_of_29 rfl ?_
        obtain ⟨J18, hJ18, h⟩ := jn_go h
        have JJ18 : ∀ (z19 : Int32) (M20 : Mem), J18 z19 M20 = some (r, Mr) → AT l g RX11 cX11_of 3 (some .int) (rmM 4 98) (PI r Mr) 47 [some (.ref (g.1 11)), some (.int v1), some (.int v2)] [.int z19] M20 := by
          intro z19 M20 h
          rw [hJ18] at h
          exact A_iret dX11_of_47 (pI_go h)
        refine A_if_ne dX11_of_30 (fun hc => ?_) (fun hc => ?_)
        · have h := gF_go hc h
          refine A_aload_n dX11_of_42 rfl ?_
          refine A_iload_n dX11_of_43 rfl ?_
          obtain ⟨r22, M21, h1, h⟩ := bE_go h
          refine A_cVi1 dX11_of_44 ml_X11_167 mb_X11_cyclesOf mi_X11_cyclesOf ob11 rfl rfl ⟨Nat.le_of_ble_eq_true rfl, Nat.le_of_ble_eq_true rfl⟩ (Nat.le_of_ble_eq_true rfl) (ok_X11_cyclesOf h1) ?_
          exact A_le (lvLe_s (lvLe_s (lvLe_s lvLe_0))) (JJ18 _ _ h)
        · have h := gT_go hc h
          refine A_aload_n dX11_of_33 rfl ?_
          refine A_getf dX11_of_34 fw_X11_7 ob11 rfl ?_
          refine A_iload_n dX11_of_37 rfl ?_
          obtain ⟨hg, h⟩ := gV_go h
          refine A_iald dX11_of_38 ia66 hg ?_
          refine A_goto dX11_of_39 ?_
          exact A_le (lvLe_s (lvLe_s (lvLe_s lvLe_0))) (JJ18 _ _ h)
    · have h := gT_go hc h
      refine A_aload_n dX11_of_18 rfl ?_
      refine A_iconst (v := 1) dX11_of_19 (by decide) ?_
      obtain ⟨r24, M23, h1, h⟩ := bE_go h
      refine A_cVi1 dX11_of_20 ml_X11_137 mb_X11_finding mi_X11_finding ob11 rfl rfl ⟨Nat.le_of_ble_eq_true rfl, Nat.le_of_ble_eq_true rfl⟩ (Nat.le_of_ble_eq_true rfl) (ok_X11_finding h1) ?_
      exact A_iret dX11_of_23 (pI_go h)
-- BenchTimesModel.job
theorem dX11_job_0 : di cX11_job 0 (.aload_n 0) 1 1 := ⟨by decide +kernel, rfl⟩
theorem dX11_job_1 : di cX11_job 1 (.getfield 130) 3 4 := ⟨by decide +kernel, rfl⟩
theorem dX11_job_4 : di cX11_job 4 (.bipush 8) 2 6 := ⟨by decide +kernel, rfl⟩
theorem dX11_job_6 : dj cX11_job 6 (.if_icmp .ne) 9 15 := ⟨9, by decide +kernel, rfl, rfl⟩
theorem dX11_job_9 : di cX11_job 9 (.aload_n 0) 1 10 := ⟨by decide +kernel, rfl⟩
theorem dX11_job_10 : di cX11_job 10 (.iconst 4) 1 11 := ⟨by decide +kernel, rfl⟩
theorem dX11_job_11 : di cX11_job 11 (.invokevirtual 137) 3 14 := ⟨by decide +kernel, rfl⟩
theorem dX11_job_14 : di cX11_job 14 (.ireturn) 1 15 := ⟨by decide +kernel, rfl⟩
theorem dX11_job_15 : di cX11_job 15 (.aload_n 0) 1 16 := ⟨by decide +kernel, rfl⟩
theorem dX11_job_16 : di cX11_job 16 (.dup) 1 17 := ⟨by decide +kernel, rfl⟩
theorem dX11_job_17 : di cX11_job 17 (.getfield 130) 3 20 := ⟨by decide +kernel, rfl⟩
theorem dX11_job_20 : di cX11_job 20 (.iconst 1) 1 21 := ⟨by decide +kernel, rfl⟩
theorem dX11_job_21 : di cX11_job 21 (.iadd) 1 22 := ⟨by decide +kernel, rfl⟩
theorem dX11_job_22 : di cX11_job 22 (.putfield 130) 3 25 := ⟨by decide +kernel, rfl⟩
theorem dX11_job_25 : di cX11_job 25 (.aload_n 0) 1 26 := ⟨by decide +kernel, rfl⟩
theorem dX11_job_26 : di cX11_job 26 (.getfield 130) 3 29 := ⟨by decide +kernel, rfl⟩
theorem dX11_job_29 : di cX11_job 29 (.iconst 1) 1 30 := ⟨by decide +kernel, rfl⟩
theorem dX11_job_30 : di cX11_job 30 (.isub) 1 31 := ⟨by decide +kernel, rfl⟩
theorem dX11_job_31 : di cX11_job 31 (.ireturn) 1 32 := ⟨by decide +kernel, rfl⟩
def f_X11_job  (M : Mem) : Option Ret := if (M.1 11 12) = (8 : Int32) then (bE (f_X11_finding (4 : Int32) M) (fun r3 M2 => some (r3, M2))) else (bM (up2 M 11 12 ((M.1 11 12) + (1 : Int32))) (fun M1 => some ((M1.1 11 12) - (1 : Int32), M1)))
set_option maxRecDepth 100000 in
theorem ok_X11_job {l : Launch} {g : Cx}  {M : Mem} {r : Int32} {Mr : Mem} (h : f_X11_job  M = some (r, Mr)) : CT l g yX11_job cX11_job 1 (some .int) 1 21 [.ref (g.1 11)] M (PI r Mr) := by
  refine CT_of (lv := [some (.ref (g.1 11))]) (by decide) rfl (Nat.le_of_ble_eq_true rfl) ?_
  unfold f_X11_job at h
  refine A_aload_n dX11_job_0 rfl ?_
  refine A_getf dX11_job_1 fw_X11_130 ob11 rfl ?_
  refine A_bipush (v := 8) dX11_job_4 (by decide) ?_
  refine A_icmp_ne dX11_job_6 (fun hc => ?_) (fun hc => ?_)
  · have h := gF_go hc h
    refine A_aload_n dX11_job_15 rfl ?_
    refine A_dup dX11_job_16 rfl ?_
    refine A_getf dX11_job_17 fw_X11_130 ob11 rfl ?_
    refine A_iconst (v := 1) dX11_job_20 (by decide) ?_
    refine A_iadd dX11_job_21 ?_
    refine A_putf dX11_job_22 pw_X11_130 ob11 pf11_12 (Nat.le_of_ble_eq_true rfl) (bM_go h (fun M1 h => ?_))
    refine A_aload_n dX11_job_25 rfl ?_
    refine A_getf dX11_job_26 fw_X11_130 ob11 rfl ?_
    refine A_iconst (v := 1) dX11_job_29 (by decide) ?_
    refine A_isub dX11_job_30 ?_
    exact A_iret dX11_job_31 (pI_go h)
  · have h := gT_go hc h
    refine A_aload_n dX11_job_9 rfl ?_
    refine A_iconst (v := 4) dX11_job_10 (by decide) ?_
    obtain ⟨r3, M2, h1, h⟩ := bE_go h
    refine A_cVi1 dX11_job_11 ml_X11_137 mb_X11_finding mi_X11_finding ob11 rfl rfl ⟨Nat.le_of_ble_eq_true rfl, Nat.le_of_ble_eq_true rfl⟩ (Nat.le_of_ble_eq_true rfl) (ok_X11_finding h1) ?_
    exact A_iret dX11_job_14 (pI_go h)
-- BenchTimesModel.latestOf
theorem dX11_latestOf_0 : di cX11_latestOf 0 (.iconst (-1)) 1 1 := ⟨by decide +kernel, rfl⟩
theorem dX11_latestOf_1 : di cX11_latestOf 1 (.istore_n 2) 1 2 := ⟨by decide +kernel, rfl⟩
theorem dX11_latestOf_2 : di cX11_latestOf 2 (.iconst 0) 1 3 := ⟨by decide +kernel, rfl⟩
theorem dX11_latestOf_3 : di cX11_latestOf 3 (.istore_n 3) 1 4 := ⟨by decide +kernel, rfl⟩
theorem dX11_latestOf_4 : di cX11_latestOf 4 (.iload_n 3) 1 5 := ⟨by decide +kernel, rfl⟩
theorem dX11_latestOf_5 : di cX11_latestOf 5 (.aload_n 0) 1 6 := ⟨by decide +kernel, rfl⟩
theorem dX11_latestOf_6 : di cX11_latestOf 6 (.getfield 173) 3 9 := ⟨by decide +kernel, rfl⟩
theorem dX11_latestOf_9 : dj cX11_latestOf 9 (.if_icmp .ge) 12 34 := ⟨25, by decide +kernel, rfl, rfl⟩
theorem dX11_latestOf_12 : di cX11_latestOf 12 (.aload_n 0) 1 13 := ⟨by decide +kernel, rfl⟩
theorem dX11_latestOf_13 : di cX11_latestOf 13 (.getfield 51) 3 16 := ⟨by decide +kernel, rfl⟩
theorem dX11_latestOf_16 : di cX11_latestOf 16 (.iload_n 3) 1 17 := ⟨by decide +kernel, rfl⟩
theorem dX11_latestOf_17 : di cX11_latestOf 17 (.iaload) 1 18 := ⟨by decide +kernel, rfl⟩
theorem dX11_latestOf_18 : di cX11_latestOf 18 (.iload_n 1) 1 19 := ⟨by decide +kernel, rfl⟩
theorem dX11_latestOf_19 : dj cX11_latestOf 19 (.if_icmp .ne) 22 26 := ⟨7, by decide +kernel, rfl, rfl⟩
theorem dX11_latestOf_22 : di cX11_latestOf 22 (.iload_n 3) 1 23 := ⟨by decide +kernel, rfl⟩
theorem dX11_latestOf_23 : dj cX11_latestOf 23 .goto 26 27 := ⟨4, by decide +kernel, rfl, rfl⟩
theorem dX11_latestOf_26 : di cX11_latestOf 26 (.iload_n 2) 1 27 := ⟨by decide +kernel, rfl⟩
theorem dX11_latestOf_27 : di cX11_latestOf 27 (.istore_n 2) 1 28 := ⟨by decide +kernel, rfl⟩
theorem dX11_latestOf_28 : di cX11_latestOf 28 (.iinc 3 1) 3 31 := ⟨by decide +kernel, rfl⟩
theorem dX11_latestOf_31 : dj cX11_latestOf 31 .goto 34 4 := ⟨-27, by decide +kernel, rfl, rfl⟩
theorem dX11_latestOf_34 : di cX11_latestOf 34 (.iload_n 2) 1 35 := ⟨by decide +kernel, rfl⟩
theorem dX11_latestOf_35 : di cX11_latestOf 35 (.ireturn) 1 36 := ⟨by decide +kernel, rfl⟩
def f_X11_latestOf_L4 (v1 : Int32) : Nat → Int32 → Int32 → Mem → (Int32 → Int32 → Mem → Option Ret) → Option Ret
  | 0, _, _, _, _ => none
  | k4 + 1, v2, v3, M, K4 => if (M.1 11 17) ≤ v3 then (K4 v2 v3 M) else (gV v3 40 (jn (α := Int32 → Option Ret) (fun (z2 : Int32) => f_X11_latestOf_L4 v1 k4 z2 (v3 + (1 : Int32)) M K4) (fun J1 => if (M.1 77 v3.toNatClampNeg) = v1 then (J1 v3) else (J1 v2))))
set_option maxRecDepth 100000 in
theorem f_X11_latestOf_L4_ok {l : Launch} {g : Cx} (v1 : Int32)  {r : Int32} {Mr : Mem} : ∀ (k : Nat) (v2 : Int32) (v3 : Int32) (M : Mem) (K4 : Int32 → Int32 → Mem → Option Ret), f_X11_latestOf_L4 v1 k v2 v3 M K4 = some (r, Mr) → (∀ (v2 : Int32) (v3 : Int32) (M : Mem), K4 v2 v3 M = some (r, Mr) → AT l g RX11 cX11_latestOf 4 (some .int) (rmM 0 0) (PI r Mr) 34 [some (.ref (g.1 11)), some (.int v1), some (.int v2), some (.int v3)] [] M) → AT l g RX11 cX11_latestOf 4 (some .int) (rmM 0 0) (PI r Mr) 4 [some (.ref (g.1 11)), some (.int v1), some (.int v2), some (.int v3)] [] M
  | 0, v2, v3, M, K4, h, hK4 => by cases h
  | k4 + 1, v2, v3, M, K4, h, hK4 => by
    have ih4 := f_X11_latestOf_L4_ok (l := l) (g := g) v1 (r := r) (Mr := Mr) k4
    rw [f_X11_latestOf_L4] at h
    refine A_iload_n dX11_latestOf_4 rfl ?_
    refine A_aload_n dX11_latestOf_5 rfl ?_
    refine A_getf dX11_latestOf_6 fw_X11_173 ob11 rfl ?_
    refine A_icmp_ge dX11_latestOf_9 (fun hc => ?_) (fun hc => ?_)
    · have h := gT_go hc h
      exact A_le (lvLe_s (lvLe_s (lvLe_s (lvLe_s lvLe_0)))) (hK4 _ _ _ h)
    · have h := gF_go hc h
      refine A_aload_n dX11_latestOf_12 rfl ?_
      refine A_getf dX11_latestOf_13 fw_X11_51 ob11 rfl ?_
      refine A_iload_n dX11_latestOf_16 rfl ?_
      obtain ⟨hg, h⟩ := gV_go h
      refine A_iald dX11_latestOf_17 ia77 hg ?_
      refine A_iload_n dX11_latestOf_18 rfl ?_
      obtain ⟨J1, hJ1, h⟩ := jn_go h
      have JJ1 : ∀ (z2 : Int32), J1 z2 = some (r, Mr) → AT l g RX11 cX11_latestOf 4 (some .int) (rmM 0 0) (PI r Mr) 27 [some (.ref (g.1 11)), some (.int v1), some (.int v2), some (.int v3)] [.int z2] M := by
        intro z2 h
        rw [hJ1] at h
        refine A_istoren2 dX11_latestOf_27 (by decide) rfl ?_
        refine A_iinc3 (d := 1) dX11_latestOf_28 (by decide) (by decide) rfl ?_
        refine A_goto dX11_latestOf_31 ?_
        exact A_le (lvLe_s (lvLe_s (lvLe_s (lvLe_s lvLe_0)))) (ih4 _ _ _ K4 h hK4)
      refine A_icmp_ne dX11_latestOf_19 (fun hc => ?_) (fun hc => ?_)
      · have h := gF_go hc h
        refine A_iload_n dX11_latestOf_26 rfl ?_
        exact A_le (lvLe_s (lvLe_s (lvLe_s (lvLe_s lvLe_0)))) (JJ1 _ h)
      · have h := gT_go hc h
        refine A_iload_n dX11_latestOf_22 rfl ?_
        refine A_goto dX11_latestOf_23 ?_
        exact A_le (lvLe_s (lvLe_s (lvLe_s (lvLe_s lvLe_0)))) (JJ1 _ h)
def f_X11_latestOf (v1 : Int32) (M : Mem) : Option Ret := f_X11_latestOf_L4 v1 FU (-1 : Int32) (0 : Int32) M (fun w3 w4 M5 => some (w3, M5))
set_option maxRecDepth 100000 in
theorem ok_X11_latestOf {l : Launch} {g : Cx} {v1 : Int32} {M : Mem} {r : Int32} {Mr : Mem} (h : f_X11_latestOf v1 M = some (r, Mr)) : CT l g yX11_latestOf cX11_latestOf 4 (some .int) 0 0 [.ref (g.1 11), .int v1] M (PI r Mr) := by
  refine CT_of (lv := [some (.ref (g.1 11)), some (.int v1), none, none]) (by decide) rfl (Nat.le_of_ble_eq_true rfl) ?_
  unfold f_X11_latestOf at h
  refine A_iconst (v := -1) dX11_latestOf_0 (by decide) ?_
  refine A_istoren2 dX11_latestOf_1 (by decide) rfl ?_
  refine A_iconst (v := 0) dX11_latestOf_2 (by decide) ?_
  refine A_istoren3 dX11_latestOf_3 (by decide) rfl ?_
  refine f_X11_latestOf_L4_ok _ FU _ _ _ _ h (fun w3 w4 M5 h => ?_)
  refine A_iload_n dX11_latestOf_34 rfl ?_
  exact A_iret dX11_latestOf_35 (pI_go h)
