-- BenchTimesModel.feed
theorem dX11_feed_0 : di cX11_feed 0 (.iload_n 1) 1 1 := ⟨by decide +kernel, rfl⟩
theorem dX11_feed_1 : di cX11_feed 1 (.iconst 0) 1 2 := ⟨by decide +kernel, rfl⟩
theorem dX11_feed_2 : di cX11_feed 2 (.sipush 255) 3 5 := ⟨by decide +kernel, rfl⟩
theorem dX11_feed_5 : di cX11_feed 5 (.invokestatic 133) 3 8 := ⟨by decide +kernel, rfl⟩
theorem dX11_feed_8 : dj cX11_feed 8 (.ifCond .ne) 11 17 := ⟨9, by decide +kernel, rfl, rfl⟩
theorem dX11_feed_11 : di cX11_feed 11 (.aload_n 0) 1 12 := ⟨by decide +kernel, rfl⟩
theorem dX11_feed_12 : di cX11_feed 12 (.iconst 1) 1 13 := ⟨by decide +kernel, rfl⟩
theorem dX11_feed_13 : di cX11_feed 13 (.invokevirtual 137) 3 16 := ⟨by decide +kernel, rfl⟩
theorem dX11_feed_16 : di cX11_feed 16 (.ireturn) 1 17 := ⟨by decide +kernel, rfl⟩
theorem dX11_feed_17 : di cX11_feed 17 (.aload_n 0) 1 18 := ⟨by decide +kernel, rfl⟩
theorem dX11_feed_18 : di cX11_feed 18 (.getfield 198) 3 21 := ⟨by decide +kernel, rfl⟩
theorem dX11_feed_21 : di cX11_feed 21 (.bipush 60) 2 23 := ⟨by decide +kernel, rfl⟩
theorem dX11_feed_23 : dj cX11_feed 23 (.if_icmp .ne) 26 32 := ⟨9, by decide +kernel, rfl, rfl⟩
theorem dX11_feed_26 : di cX11_feed 26 (.aload_n 0) 1 27 := ⟨by decide +kernel, rfl⟩
theorem dX11_feed_27 : di cX11_feed 27 (.iconst 4) 1 28 := ⟨by decide +kernel, rfl⟩
theorem dX11_feed_28 : di cX11_feed 28 (.invokevirtual 137) 3 31 := ⟨by decide +kernel, rfl⟩
theorem dX11_feed_31 : di cX11_feed 31 (.ireturn) 1 32 := ⟨by decide +kernel, rfl⟩
theorem dX11_feed_32 : di cX11_feed 32 (.aload_n 0) 1 33 := ⟨by decide +kernel, rfl⟩
theorem dX11_feed_33 : di cX11_feed 33 (.getfield 63) 3 36 := ⟨by decide +kernel, rfl⟩
theorem dX11_feed_36 : di cX11_feed 36 (.aload_n 0) 1 37 := ⟨by decide +kernel, rfl⟩
theorem dX11_feed_37 : di cX11_feed 37 (.getfield 198) 3 40 := ⟨by decide +kernel, rfl⟩
theorem dX11_feed_40 : di cX11_feed 40 (.iload_n 1) 1 41 := ⟨by decide +kernel, rfl⟩
theorem dX11_feed_41 : di cX11_feed 41 (.iastore) 1 42 := ⟨by decide +kernel, rfl⟩
theorem dX11_feed_42 : di cX11_feed 42 (.aload_n 0) 1 43 := ⟨by decide +kernel, rfl⟩
theorem dX11_feed_43 : di cX11_feed 43 (.dup) 1 44 := ⟨by decide +kernel, rfl⟩
theorem dX11_feed_44 : di cX11_feed 44 (.getfield 198) 3 47 := ⟨by decide +kernel, rfl⟩
theorem dX11_feed_47 : di cX11_feed 47 (.iconst 1) 1 48 := ⟨by decide +kernel, rfl⟩
theorem dX11_feed_48 : di cX11_feed 48 (.iadd) 1 49 := ⟨by decide +kernel, rfl⟩
theorem dX11_feed_49 : di cX11_feed 49 (.putfield 198) 3 52 := ⟨by decide +kernel, rfl⟩
theorem dX11_feed_52 : di cX11_feed 52 (.aload_n 0) 1 53 := ⟨by decide +kernel, rfl⟩
theorem dX11_feed_53 : di cX11_feed 53 (.getfield 198) 3 56 := ⟨by decide +kernel, rfl⟩
theorem dX11_feed_56 : di cX11_feed 56 (.ireturn) 1 57 := ⟨by decide +kernel, rfl⟩
def f_X11_feed (v1 : Int32) (M : Mem) : Option Ret := bE (f_X11_isIn v1 (0 : Int32) (255 : Int32) M) (fun r2 M1 => if r2 = 0 then (bE (f_X11_finding (1 : Int32) M1) (fun r8 M7 => some (r8, M7))) else (if (M1.1 11 24) = (60 : Int32) then (bE (f_X11_finding (4 : Int32) M1) (fun r6 M5 => some (r6, M5))) else (gV (M1.1 11 24) 60 (bM (up2 M1 81 (M1.1 11 24).toNatClampNeg v1) (fun M3 => bM (up2 M3 11 24 ((M3.1 11 24) + (1 : Int32))) (fun M4 => some (M4.1 11 24, M4)))))))
set_option maxRecDepth 100000 in
theorem ok_X11_feed {l : Launch} {g : Cx} {v1 : Int32} {M : Mem} {r : Int32} {Mr : Mem} (h : f_X11_feed v1 M = some (r, Mr)) : CT l g yX11_feed cX11_feed 2 (some .int) 1 22 [.ref (g.1 11), .int v1] M (PI r Mr) := by
  refine CT_of (lv := [some (.ref (g.1 11)), some (.int v1)]) (by decide) rfl (Nat.le_of_ble_eq_true rfl) ?_
  unfold f_X11_feed at h
  refine A_iload_n dX11_feed_0 rfl ?_
  refine A_iconst (v := 0) dX11_feed_1 (by decide) ?_
  refine A_sipush (v := 255) dX11_feed_2 (by decide) ?_
  obtain ⟨r2, M1, h1, h⟩ := bE_go h
  refine A_cSi3 dX11_feed_5 ml_X11_133 mb_X11_isIn ms_X11_isIn ⟨Nat.le_of_ble_eq_true rfl, Nat.le_of_ble_eq_true rfl⟩ (Nat.le_of_ble_eq_true rfl) (ok_X11_isIn h1) ?_
  refine A_if_ne dX11_feed_8 (fun hc => ?_) (fun hc => ?_)
  · have h := gF_go hc h
    refine A_aload_n dX11_feed_17 rfl ?_
    refine A_getf dX11_feed_18 fw_X11_198 ob11 rfl ?_
    refine A_bipush (v := 60) dX11_feed_21 (by decide) ?_
    refine A_icmp_ne dX11_feed_23 (fun hc => ?_) (fun hc => ?_)
    · have h := gF_go hc h
      refine A_aload_n dX11_feed_32 rfl ?_
      refine A_getf dX11_feed_33 fw_X11_63 ob11 rfl ?_
      refine A_aload_n dX11_feed_36 rfl ?_
      refine A_getf dX11_feed_37 fw_X11_198 ob11 rfl ?_
      refine A_iload_n dX11_feed_40 rfl ?_
      obtain ⟨hg, h⟩ := gV_go h
      refine A_iast dX11_feed_41 ia81 hg (bM_go h (fun M3 h => ?_))
      refine A_aload_n dX11_feed_42 rfl ?_
      refine A_dup dX11_feed_43 rfl ?_
      refine A_getf dX11_feed_44 fw_X11_198 ob11 rfl ?_
      refine A_iconst (v := 1) dX11_feed_47 (by decide) ?_
      refine A_iadd dX11_feed_48 ?_
      refine A_putf dX11_feed_49 pw_X11_198 ob11 pf11_24 (Nat.le_of_ble_eq_true rfl) (bM_go h (fun M4 h => ?_))
      refine A_aload_n dX11_feed_52 rfl ?_
      refine A_getf dX11_feed_53 fw_X11_198 ob11 rfl ?_
      exact A_iret dX11_feed_56 (pI_go h)
    · have h := gT_go hc h
      refine A_aload_n dX11_feed_26 rfl ?_
      refine A_iconst (v := 4) dX11_feed_27 (by decide) ?_
      obtain ⟨r6, M5, h1, h⟩ := bE_go h
      refine A_cVi1 dX11_feed_28 ml_X11_137 mb_X11_finding mi_X11_finding ob11 rfl rfl ⟨Nat.le_of_ble_eq_true rfl, Nat.le_of_ble_eq_true rfl⟩ (Nat.le_of_ble_eq_true rfl) (ok_X11_finding h1) ?_
      exact A_iret dX11_feed_31 (pI_go h)
  · have h := gT_go hc h
    refine A_aload_n dX11_feed_11 rfl ?_
    refine A_iconst (v := 1) dX11_feed_12 (by decide) ?_
    obtain ⟨r8, M7, h1, h⟩ := bE_go h
    refine A_cVi1 dX11_feed_13 ml_X11_137 mb_X11_finding mi_X11_finding ob11 rfl rfl ⟨Nat.le_of_ble_eq_true rfl, Nat.le_of_ble_eq_true rfl⟩ (Nat.le_of_ble_eq_true rfl) (ok_X11_finding h1) ?_
    exact A_iret dX11_feed_16 (pI_go h)
-- BenchTimesModel.here
theorem dX11_here_0 : di cX11_here 0 (.aload_n 0) 1 1 := ⟨by decide +kernel, rfl⟩
theorem dX11_here_1 : di cX11_here 1 (.getfield 201) 3 4 := ⟨by decide +kernel, rfl⟩
theorem dX11_here_4 : di cX11_here 4 (.aload_n 0) 1 5 := ⟨by decide +kernel, rfl⟩
theorem dX11_here_5 : di cX11_here 5 (.getfield 198) 3 8 := ⟨by decide +kernel, rfl⟩
theorem dX11_here_8 : dj cX11_here 8 (.if_icmp .ge) 11 23 := ⟨15, by decide +kernel, rfl, rfl⟩
theorem dX11_here_11 : di cX11_here 11 (.aload_n 0) 1 12 := ⟨by decide +kernel, rfl⟩
theorem dX11_here_12 : di cX11_here 12 (.getfield 63) 3 15 := ⟨by decide +kernel, rfl⟩
theorem dX11_here_15 : di cX11_here 15 (.aload_n 0) 1 16 := ⟨by decide +kernel, rfl⟩
theorem dX11_here_16 : di cX11_here 16 (.getfield 201) 3 19 := ⟨by decide +kernel, rfl⟩
theorem dX11_here_19 : di cX11_here 19 (.iaload) 1 20 := ⟨by decide +kernel, rfl⟩
theorem dX11_here_20 : dj cX11_here 20 .goto 23 24 := ⟨4, by decide +kernel, rfl, rfl⟩
theorem dX11_here_23 : di cX11_here 23 (.iconst (-1)) 1 24 := ⟨by decide +kernel, rfl⟩
theorem dX11_here_24 : di cX11_here 24 (.ireturn) 1 25 := ⟨by decide +kernel, rfl⟩
def f_X11_here  (M : Mem) : Option Ret := jn (α := Int32 → Option Ret) (fun (z2 : Int32) => some (z2, M)) (fun J1 => if (M.1 11 24) ≤ (M.1 11 44) then (J1 (-1 : Int32)) else (gV (M.1 11 44) 60 (J1 (M.1 81 (M.1 11 44).toNatClampNeg))))
set_option maxRecDepth 100000 in
theorem ok_X11_here {l : Launch} {g : Cx}  {M : Mem} {r : Int32} {Mr : Mem} (h : f_X11_here  M = some (r, Mr)) : CT l g yX11_here cX11_here 1 (some .int) 0 0 [.ref (g.1 11)] M (PI r Mr) := by
  refine CT_of (lv := [some (.ref (g.1 11))]) (by decide) rfl (Nat.le_of_ble_eq_true rfl) ?_
  unfold f_X11_here at h
  refine A_aload_n dX11_here_0 rfl ?_
  refine A_getf dX11_here_1 fw_X11_201 ob11 rfl ?_
  refine A_aload_n dX11_here_4 rfl ?_
  refine A_getf dX11_here_5 fw_X11_198 ob11 rfl ?_
  obtain ⟨J1, hJ1, h⟩ := jn_go h
  have JJ1 : ∀ (z2 : Int32), J1 z2 = some (r, Mr) → AT l g RX11 cX11_here 1 (some .int) (rmM 0 0) (PI r Mr) 24 [some (.ref (g.1 11))] [.int z2] M := by
    intro z2 h
    rw [hJ1] at h
    exact A_iret dX11_here_24 (pI_go h)
  refine A_icmp_ge dX11_here_8 (fun hc => ?_) (fun hc => ?_)
  · have h := gT_go hc h
    refine A_iconst (v := -1) dX11_here_23 (by decide) ?_
    exact A_le (lvLe_s lvLe_0) (JJ1 _ h)
  · have h := gF_go hc h
    refine A_aload_n dX11_here_11 rfl ?_
    refine A_getf dX11_here_12 fw_X11_63 ob11 rfl ?_
    refine A_aload_n dX11_here_15 rfl ?_
    refine A_getf dX11_here_16 fw_X11_201 ob11 rfl ?_
    obtain ⟨hg, h⟩ := gV_go h
    refine A_iald dX11_here_19 ia81 hg ?_
    refine A_goto dX11_here_20 ?_
    exact A_le (lvLe_s lvLe_0) (JJ1 _ h)
-- BenchTimesModel.wordHere
theorem dX11_wordHere_0 : di cX11_wordHere 0 (.iconst 0) 1 1 := ⟨by decide +kernel, rfl⟩
theorem dX11_wordHere_1 : di cX11_wordHere 1 (.istore_n 1) 1 2 := ⟨by decide +kernel, rfl⟩
theorem dX11_wordHere_2 : di cX11_wordHere 2 (.iconst 0) 1 3 := ⟨by decide +kernel, rfl⟩
theorem dX11_wordHere_3 : di cX11_wordHere 3 (.istore_n 2) 1 4 := ⟨by decide +kernel, rfl⟩
theorem dX11_wordHere_4 : di cX11_wordHere 4 (.iload_n 2) 1 5 := ⟨by decide +kernel, rfl⟩
theorem dX11_wordHere_5 : di cX11_wordHere 5 (.iconst 5) 1 6 := ⟨by decide +kernel, rfl⟩
theorem dX11_wordHere_6 : dj cX11_wordHere 6 (.if_icmp .ge) 9 34 := ⟨28, by decide +kernel, rfl, rfl⟩
theorem dX11_wordHere_9 : di cX11_wordHere 9 (.iload_n 1) 1 10 := ⟨by decide +kernel, rfl⟩
theorem dX11_wordHere_10 : di cX11_wordHere 10 (.aload_n 0) 1 11 := ⟨by decide +kernel, rfl⟩
theorem dX11_wordHere_11 : di cX11_wordHere 11 (.getfield 111) 3 14 := ⟨by decide +kernel, rfl⟩
theorem dX11_wordHere_14 : di cX11_wordHere 14 (.iload_n 2) 1 15 := ⟨by decide +kernel, rfl⟩
theorem dX11_wordHere_15 : di cX11_wordHere 15 (.iaload) 1 16 := ⟨by decide +kernel, rfl⟩
theorem dX11_wordHere_16 : dj cX11_wordHere 16 (.ifCond .ge) 19 25 := ⟨9, by decide +kernel, rfl, rfl⟩
theorem dX11_wordHere_19 : di cX11_wordHere 19 (.iconst 1) 1 20 := ⟨by decide +kernel, rfl⟩
theorem dX11_wordHere_20 : di cX11_wordHere 20 (.iload_n 2) 1 21 := ⟨by decide +kernel, rfl⟩
theorem dX11_wordHere_21 : di cX11_wordHere 21 (.ishl) 1 22 := ⟨by decide +kernel, rfl⟩
theorem dX11_wordHere_22 : dj cX11_wordHere 22 .goto 25 26 := ⟨4, by decide +kernel, rfl, rfl⟩
theorem dX11_wordHere_25 : di cX11_wordHere 25 (.iconst 0) 1 26 := ⟨by decide +kernel, rfl⟩
theorem dX11_wordHere_26 : di cX11_wordHere 26 (.ior) 1 27 := ⟨by decide +kernel, rfl⟩
theorem dX11_wordHere_27 : di cX11_wordHere 27 (.istore_n 1) 1 28 := ⟨by decide +kernel, rfl⟩
theorem dX11_wordHere_28 : di cX11_wordHere 28 (.iinc 2 1) 3 31 := ⟨by decide +kernel, rfl⟩
theorem dX11_wordHere_31 : dj cX11_wordHere 31 .goto 34 4 := ⟨-27, by decide +kernel, rfl, rfl⟩
theorem dX11_wordHere_34 : di cX11_wordHere 34 (.iconst 0) 1 35 := ⟨by decide +kernel, rfl⟩
theorem dX11_wordHere_35 : di cX11_wordHere 35 (.istore_n 2) 1 36 := ⟨by decide +kernel, rfl⟩
theorem dX11_wordHere_36 : di cX11_wordHere 36 (.iload_n 2) 1 37 := ⟨by decide +kernel, rfl⟩
theorem dX11_wordHere_37 : di cX11_wordHere 37 (.iconst 5) 1 38 := ⟨by decide +kernel, rfl⟩
theorem dX11_wordHere_38 : dj cX11_wordHere 38 (.if_icmp .ge) 41 193 := ⟨155, by decide +kernel, rfl, rfl⟩
theorem dX11_wordHere_41 : di cX11_wordHere 41 (.iconst 0) 1 42 := ⟨by decide +kernel, rfl⟩
theorem dX11_wordHere_42 : di cX11_wordHere 42 (.istore_n 3) 1 43 := ⟨by decide +kernel, rfl⟩
theorem dX11_wordHere_43 : di cX11_wordHere 43 (.iconst 0) 1 44 := ⟨by decide +kernel, rfl⟩
theorem dX11_wordHere_44 : di cX11_wordHere 44 (.istore 4) 2 46 := ⟨by decide +kernel, rfl⟩
theorem dX11_wordHere_46 : di cX11_wordHere 46 (.iload 4) 2 48 := ⟨by decide +kernel, rfl⟩
theorem dX11_wordHere_48 : di cX11_wordHere 48 (.iconst 5) 1 49 := ⟨by decide +kernel, rfl⟩
theorem dX11_wordHere_49 : dj cX11_wordHere 49 (.if_icmp .ge) 52 121 := ⟨72, by decide +kernel, rfl, rfl⟩
theorem dX11_wordHere_52 : di cX11_wordHere 52 (.iload_n 1) 1 53 := ⟨by decide +kernel, rfl⟩
theorem dX11_wordHere_53 : di cX11_wordHere 53 (.iload 4) 2 55 := ⟨by decide +kernel, rfl⟩
theorem dX11_wordHere_55 : di cX11_wordHere 55 (.ishr) 1 56 := ⟨by decide +kernel, rfl⟩
theorem dX11_wordHere_56 : di cX11_wordHere 56 (.iconst 1) 1 57 := ⟨by decide +kernel, rfl⟩
theorem dX11_wordHere_57 : di cX11_wordHere 57 (.iand) 1 58 := ⟨by decide +kernel, rfl⟩
theorem dX11_wordHere_58 : di cX11_wordHere 58 (.iconst 1) 1 59 := ⟨by decide +kernel, rfl⟩
theorem dX11_wordHere_59 : dj cX11_wordHere 59 (.if_icmp .ne) 62 96 := ⟨37, by decide +kernel, rfl, rfl⟩
theorem dX11_wordHere_62 : di cX11_wordHere 62 (.getstatic 204) 3 65 := ⟨by decide +kernel, rfl⟩
theorem dX11_wordHere_65 : di cX11_wordHere 65 (.iconst 5) 1 66 := ⟨by decide +kernel, rfl⟩
theorem dX11_wordHere_66 : di cX11_wordHere 66 (.iload 4) 2 68 := ⟨by decide +kernel, rfl⟩
theorem dX11_wordHere_68 : di cX11_wordHere 68 (.imul) 1 69 := ⟨by decide +kernel, rfl⟩
theorem dX11_wordHere_69 : di cX11_wordHere 69 (.iload_n 2) 1 70 := ⟨by decide +kernel, rfl⟩
theorem dX11_wordHere_70 : di cX11_wordHere 70 (.iadd) 1 71 := ⟨by decide +kernel, rfl⟩
theorem dX11_wordHere_71 : di cX11_wordHere 71 (.iaload) 1 72 := ⟨by decide +kernel, rfl⟩
theorem dX11_wordHere_72 : dj cX11_wordHere 72 (.ifCond .le) 75 96 := ⟨24, by decide +kernel, rfl, rfl⟩
theorem dX11_wordHere_75 : di cX11_wordHere 75 (.aload_n 0) 1 76 := ⟨by decide +kernel, rfl⟩
theorem dX11_wordHere_76 : di cX11_wordHere 76 (.invokevirtual 207) 3 79 := ⟨by decide +kernel, rfl⟩
theorem dX11_wordHere_79 : di cX11_wordHere 79 (.getstatic 204) 3 82 := ⟨by decide +kernel, rfl⟩
theorem dX11_wordHere_82 : di cX11_wordHere 82 (.iconst 5) 1 83 := ⟨by decide +kernel, rfl⟩
theorem dX11_wordHere_83 : di cX11_wordHere 83 (.iload 4) 2 85 := ⟨by decide +kernel, rfl⟩
theorem dX11_wordHere_85 : di cX11_wordHere 85 (.imul) 1 86 := ⟨by decide +kernel, rfl⟩
theorem dX11_wordHere_86 : di cX11_wordHere 86 (.iload_n 2) 1 87 := ⟨by decide +kernel, rfl⟩
theorem dX11_wordHere_87 : di cX11_wordHere 87 (.iadd) 1 88 := ⟨by decide +kernel, rfl⟩
theorem dX11_wordHere_88 : di cX11_wordHere 88 (.iaload) 1 89 := ⟨by decide +kernel, rfl⟩
theorem dX11_wordHere_89 : dj cX11_wordHere 89 (.if_icmp .ne) 92 96 := ⟨7, by decide +kernel, rfl, rfl⟩
theorem dX11_wordHere_92 : di cX11_wordHere 92 (.iconst 1) 1 93 := ⟨by decide +kernel, rfl⟩
theorem dX11_wordHere_93 : dj cX11_wordHere 93 .goto 96 97 := ⟨4, by decide +kernel, rfl, rfl⟩
theorem dX11_wordHere_96 : di cX11_wordHere 96 (.iconst 0) 1 97 := ⟨by decide +kernel, rfl⟩
theorem dX11_wordHere_97 : di cX11_wordHere 97 (.istore 5) 2 99 := ⟨by decide +kernel, rfl⟩
theorem dX11_wordHere_99 : di cX11_wordHere 99 (.iload_n 3) 1 100 := ⟨by decide +kernel, rfl⟩
theorem dX11_wordHere_100 : di cX11_wordHere 100 (.iload 5) 2 102 := ⟨by decide +kernel, rfl⟩
theorem dX11_wordHere_102 : dj cX11_wordHere 102 (.ifCond .eq) 105 112 := ⟨10, by decide +kernel, rfl, rfl⟩
theorem dX11_wordHere_105 : di cX11_wordHere 105 (.iconst 1) 1 106 := ⟨by decide +kernel, rfl⟩
theorem dX11_wordHere_106 : di cX11_wordHere 106 (.iload 4) 2 108 := ⟨by decide +kernel, rfl⟩
theorem dX11_wordHere_108 : di cX11_wordHere 108 (.ishl) 1 109 := ⟨by decide +kernel, rfl⟩
theorem dX11_wordHere_109 : dj cX11_wordHere 109 .goto 112 113 := ⟨4, by decide +kernel, rfl, rfl⟩
theorem dX11_wordHere_112 : di cX11_wordHere 112 (.iconst 0) 1 113 := ⟨by decide +kernel, rfl⟩
theorem dX11_wordHere_113 : di cX11_wordHere 113 (.ior) 1 114 := ⟨by decide +kernel, rfl⟩
theorem dX11_wordHere_114 : di cX11_wordHere 114 (.istore_n 3) 1 115 := ⟨by decide +kernel, rfl⟩
theorem dX11_wordHere_115 : di cX11_wordHere 115 (.iinc 4 1) 3 118 := ⟨by decide +kernel, rfl⟩
theorem dX11_wordHere_118 : dj cX11_wordHere 118 .goto 121 46 := ⟨-72, by decide +kernel, rfl, rfl⟩
theorem dX11_wordHere_121 : di cX11_wordHere 121 (.iload_n 3) 1 122 := ⟨by decide +kernel, rfl⟩
theorem dX11_wordHere_122 : dj cX11_wordHere 122 (.ifCond .ne) 125 127 := ⟨5, by decide +kernel, rfl, rfl⟩
theorem dX11_wordHere_125 : di cX11_wordHere 125 (.iconst (-1)) 1 126 := ⟨by decide +kernel, rfl⟩
theorem dX11_wordHere_126 : di cX11_wordHere 126 (.ireturn) 1 127 := ⟨by decide +kernel, rfl⟩
theorem dX11_wordHere_127 : di cX11_wordHere 127 (.iload_n 3) 1 128 := ⟨by decide +kernel, rfl⟩
theorem dX11_wordHere_128 : di cX11_wordHere 128 (.istore_n 1) 1 129 := ⟨by decide +kernel, rfl⟩
theorem dX11_wordHere_129 : di cX11_wordHere 129 (.aload_n 0) 1 130 := ⟨by decide +kernel, rfl⟩
theorem dX11_wordHere_130 : di cX11_wordHere 130 (.dup) 1 131 := ⟨by decide +kernel, rfl⟩
theorem dX11_wordHere_131 : di cX11_wordHere 131 (.getfield 201) 3 134 := ⟨by decide +kernel, rfl⟩
theorem dX11_wordHere_134 : di cX11_wordHere 134 (.iconst 1) 1 135 := ⟨by decide +kernel, rfl⟩
theorem dX11_wordHere_135 : di cX11_wordHere 135 (.iadd) 1 136 := ⟨by decide +kernel, rfl⟩
theorem dX11_wordHere_136 : di cX11_wordHere 136 (.putfield 201) 3 139 := ⟨by decide +kernel, rfl⟩
theorem dX11_wordHere_139 : di cX11_wordHere 139 (.iconst 0) 1 140 := ⟨by decide +kernel, rfl⟩
theorem dX11_wordHere_140 : di cX11_wordHere 140 (.istore 4) 2 142 := ⟨by decide +kernel, rfl⟩
theorem dX11_wordHere_142 : di cX11_wordHere 142 (.iload 4) 2 144 := ⟨by decide +kernel, rfl⟩
theorem dX11_wordHere_144 : di cX11_wordHere 144 (.iconst 5) 1 145 := ⟨by decide +kernel, rfl⟩
theorem dX11_wordHere_145 : dj cX11_wordHere 145 (.if_icmp .ge) 148 187 := ⟨42, by decide +kernel, rfl, rfl⟩
theorem dX11_wordHere_148 : di cX11_wordHere 148 (.iload_n 1) 1 149 := ⟨by decide +kernel, rfl⟩
theorem dX11_wordHere_149 : di cX11_wordHere 149 (.iload 4) 2 151 := ⟨by decide +kernel, rfl⟩
theorem dX11_wordHere_151 : di cX11_wordHere 151 (.ishr) 1 152 := ⟨by decide +kernel, rfl⟩
theorem dX11_wordHere_152 : di cX11_wordHere 152 (.iconst 1) 1 153 := ⟨by decide +kernel, rfl⟩
theorem dX11_wordHere_153 : di cX11_wordHere 153 (.iand) 1 154 := ⟨by decide +kernel, rfl⟩
theorem dX11_wordHere_154 : di cX11_wordHere 154 (.iconst 1) 1 155 := ⟨by decide +kernel, rfl⟩
theorem dX11_wordHere_155 : dj cX11_wordHere 155 (.if_icmp .ne) 158 181 := ⟨26, by decide +kernel, rfl, rfl⟩
theorem dX11_wordHere_158 : di cX11_wordHere 158 (.iload_n 2) 1 159 := ⟨by decide +kernel, rfl⟩
theorem dX11_wordHere_159 : di cX11_wordHere 159 (.iconst 4) 1 160 := ⟨by decide +kernel, rfl⟩
theorem dX11_wordHere_160 : dj cX11_wordHere 160 (.if_icmp .eq) 163 178 := ⟨18, by decide +kernel, rfl, rfl⟩
theorem dX11_wordHere_163 : di cX11_wordHere 163 (.getstatic 204) 3 166 := ⟨by decide +kernel, rfl⟩
theorem dX11_wordHere_166 : di cX11_wordHere 166 (.iconst 5) 1 167 := ⟨by decide +kernel, rfl⟩
theorem dX11_wordHere_167 : di cX11_wordHere 167 (.iload 4) 2 169 := ⟨by decide +kernel, rfl⟩
theorem dX11_wordHere_169 : di cX11_wordHere 169 (.imul) 1 170 := ⟨by decide +kernel, rfl⟩
theorem dX11_wordHere_170 : di cX11_wordHere 170 (.iload_n 2) 1 171 := ⟨by decide +kernel, rfl⟩
theorem dX11_wordHere_171 : di cX11_wordHere 171 (.iadd) 1 172 := ⟨by decide +kernel, rfl⟩
theorem dX11_wordHere_172 : di cX11_wordHere 172 (.iconst 1) 1 173 := ⟨by decide +kernel, rfl⟩
theorem dX11_wordHere_173 : di cX11_wordHere 173 (.iadd) 1 174 := ⟨by decide +kernel, rfl⟩
theorem dX11_wordHere_174 : di cX11_wordHere 174 (.iaload) 1 175 := ⟨by decide +kernel, rfl⟩
theorem dX11_wordHere_175 : dj cX11_wordHere 175 (.ifCond .ne) 178 181 := ⟨6, by decide +kernel, rfl, rfl⟩
theorem dX11_wordHere_178 : di cX11_wordHere 178 (.iload 4) 2 180 := ⟨by decide +kernel, rfl⟩
theorem dX11_wordHere_180 : di cX11_wordHere 180 (.ireturn) 1 181 := ⟨by decide +kernel, rfl⟩
theorem dX11_wordHere_181 : di cX11_wordHere 181 (.iinc 4 1) 3 184 := ⟨by decide +kernel, rfl⟩
theorem dX11_wordHere_184 : dj cX11_wordHere 184 .goto 187 142 := ⟨-42, by decide +kernel, rfl, rfl⟩
theorem dX11_wordHere_187 : di cX11_wordHere 187 (.iinc 2 1) 3 190 := ⟨by decide +kernel, rfl⟩
theorem dX11_wordHere_190 : dj cX11_wordHere 190 .goto 193 36 := ⟨-154, by decide +kernel, rfl, rfl⟩
theorem dX11_wordHere_193 : di cX11_wordHere 193 (.iconst (-1)) 1 194 := ⟨by decide +kernel, rfl⟩
theorem dX11_wordHere_194 : di cX11_wordHere 194 (.ireturn) 1 195 := ⟨by decide +kernel, rfl⟩
def f_X11_wordHere_L4  : Nat → Int32 → Int32 → Mem → (Int32 → Int32 → Mem → Option Ret) → Option Ret
  | 0, _, _, _, _ => none
  | k4 + 1, v1, v2, M, K4 => if (5 : Int32) ≤ v2 then (K4 v1 v2 M) else (gV v2 5 (jn (α := Int32 → Option Ret) (fun (z2 : Int32) => bI (v1 ||| z2) (fun x3 => f_X11_wordHere_L4  k4 x3 (v2 + (1 : Int32)) M K4)) (fun J1 => if 0 ≤ (M.1 97 v2.toNatClampNeg) then (J1 (0 : Int32)) else (J1 ((1 : Int32) <<< (v2 &&& 31))))))
set_option maxRecDepth 100000 in
theorem f_X11_wordHere_L4_ok {l : Launch} {g : Cx}   {r : Int32} {Mr : Mem} : ∀ (k : Nat) (v1 : Int32) (v2 : Int32) (M : Mem) (K4 : Int32 → Int32 → Mem → Option Ret), f_X11_wordHere_L4  k v1 v2 M K4 = some (r, Mr) → (∀ (v1 : Int32) (v2 : Int32) (M : Mem), K4 v1 v2 M = some (r, Mr) → AT l g RX11 cX11_wordHere 6 (some .int) (rmM 1 20) (PI r Mr) 34 [some (.ref (g.1 11)), some (.int v1), some (.int v2), none, none, none] [] M) → AT l g RX11 cX11_wordHere 6 (some .int) (rmM 1 20) (PI r Mr) 4 [some (.ref (g.1 11)), some (.int v1), some (.int v2), none, none, none] [] M
  | 0, v1, v2, M, K4, h, hK4 => by cases h
  | k4 + 1, v1, v2, M, K4, h, hK4 => by
    have ih4 := f_X11_wordHere_L4_ok (l := l) (g := g)  (r := r) (Mr := Mr) k4
    rw [f_X11_wordHere_L4] at h
    refine A_iload_n dX11_wordHere_4 rfl ?_
    refine A_iconst (v := 5) dX11_wordHere_5 (by decide) ?_
    refine A_icmp_ge dX11_wordHere_6 (fun hc => ?_) (fun hc => ?_)
    · have h := gT_go hc h
      exact A_le (lvLe_s (lvLe_s (lvLe_s (lvLe_n (lvLe_n (lvLe_n lvLe_0)))))) (hK4 _ _ _ h)
    · have h := gF_go hc h
      refine A_iload_n dX11_wordHere_9 rfl ?_
      refine A_aload_n dX11_wordHere_10 rfl ?_
      refine A_getf dX11_wordHere_11 fw_X11_111 ob11 rfl ?_
      refine A_iload_n dX11_wordHere_14 rfl ?_
      obtain ⟨hg, h⟩ := gV_go h
      refine A_iald dX11_wordHere_15 ia97 hg ?_
      obtain ⟨J1, hJ1, h⟩ := jn_go h
      have JJ1 : ∀ (z2 : Int32), J1 z2 = some (r, Mr) → AT l g RX11 cX11_wordHere 6 (some .int) (rmM 1 20) (PI r Mr) 26 [some (.ref (g.1 11)), some (.int v1), some (.int v2), none, none, none] [.int z2, .int v1] M := by
        intro z2 h
        rw [hJ1] at h
        refine A_ior dX11_wordHere_26 ?_
        refine A_istoren1 dX11_wordHere_27 (by decide) rfl (bI_go h (G := fun z => AT l g RX11 cX11_wordHere 6 (some .int) (rmM 1 20) (PI r Mr) 28 [some (.ref (g.1 11)), some (.int z), some (.int v2), none, none, none] [] M) (fun x3 h => ?_))
        refine A_iinc2 (d := 1) dX11_wordHere_28 (by decide) (by decide) rfl ?_
        refine A_goto dX11_wordHere_31 ?_
        exact A_le (lvLe_s (lvLe_s (lvLe_s (lvLe_n (lvLe_n (lvLe_n lvLe_0)))))) (ih4 _ _ _ K4 h hK4)
      refine A_if_ge dX11_wordHere_16 (fun hc => ?_) (fun hc => ?_)
      · have h := gT_go hc h
        refine A_iconst (v := 0) dX11_wordHere_25 (by decide) ?_
        exact A_le (lvLe_s (lvLe_s (lvLe_s (lvLe_n (lvLe_n (lvLe_n lvLe_0)))))) (JJ1 _ h)
      · have h := gF_go hc h
        refine A_iconst (v := 1) dX11_wordHere_19 (by decide) ?_
        refine A_iload_n dX11_wordHere_20 rfl ?_
        refine A_ishl dX11_wordHere_21 ?_
        refine A_goto dX11_wordHere_22 ?_
        exact A_le (lvLe_s (lvLe_s (lvLe_s (lvLe_n (lvLe_n (lvLe_n lvLe_0)))))) (JJ1 _ h)
def f_X11_wordHere_L46 (v1 : Int32) (v2 : Int32) : Nat → Int32 → Int32 → Mem → (Int32 → Int32 → Mem → Option Ret) → Option Ret
  | 0, _, _, _, _ => none
  | k46 + 1, v3, v4, M, K46 => if (5 : Int32) ≤ v4 then (K46 v3 v4 M) else (jn (α := Int32 → Mem → Option Ret) (fun (z8 : Int32) (M9 : Mem) => jn (α := Int32 → Option Ret) (fun (z11 : Int32) => bI (v3 ||| z11) (fun x12 => f_X11_wordHere_L46 v1 v2 k46 x12 (v4 + (1 : Int32)) M9 K46)) (fun J10 => if z8 = 0 then (J10 (0 : Int32)) else (J10 ((1 : Int32) <<< (v4 &&& 31))))) (fun J7 => if ((v1 >>> (v4 &&& 31)) &&& (1 : Int32)) = (1 : Int32) then (gV (((5 : Int32) * v4) + v2) 25 (if (tbW (((5 : Int32) * v4) + v2).toNatClampNeg) ≤ 0 then (J7 (0 : Int32) M) else (bE (f_X11_here M) (fun r14 M13 => gV (((5 : Int32) * v4) + v2) 25 (if r14 = (tbW (((5 : Int32) * v4) + v2).toNatClampNeg) then (J7 (1 : Int32) M13) else (J7 (0 : Int32) M13)))))) else (J7 (0 : Int32) M)))
set_option maxRecDepth 100000 in
theorem f_X11_wordHere_L46_ok {l : Launch} {g : Cx} (v1 : Int32) (v2 : Int32)  {r : Int32} {Mr : Mem} : ∀ (k : Nat) (v3 : Int32) (v4 : Int32) (M : Mem) (K46 : Int32 → Int32 → Mem → Option Ret), f_X11_wordHere_L46 v1 v2 k v3 v4 M K46 = some (r, Mr) → (∀ (v3 : Int32) (v4 : Int32) (M : Mem), K46 v3 v4 M = some (r, Mr) → AT l g RX11 cX11_wordHere 6 (some .int) (rmM 1 20) (PI r Mr) 121 [some (.ref (g.1 11)), some (.int v1), some (.int v2), some (.int v3), some (.int v4), none] [] M) → AT l g RX11 cX11_wordHere 6 (some .int) (rmM 1 20) (PI r Mr) 46 [some (.ref (g.1 11)), some (.int v1), some (.int v2), some (.int v3), some (.int v4), none] [] M
  | 0, v3, v4, M, K46, h, hK46 => by cases h
  | k46 + 1, v3, v4, M, K46, h, hK46 => by
    have ih46 := f_X11_wordHere_L46_ok (l := l) (g := g) v1 v2 (r := r) (Mr := Mr) k46
    rw [f_X11_wordHere_L46] at h
    refine A_iload dX11_wordHere_46 rfl ?_
    refine A_iconst (v := 5) dX11_wordHere_48 (by decide) ?_
    refine A_icmp_ge dX11_wordHere_49 (fun hc => ?_) (fun hc => ?_)
    · have h := gT_go hc h
      exact A_le (lvLe_s (lvLe_s (lvLe_s (lvLe_s (lvLe_s (lvLe_n lvLe_0)))))) (hK46 _ _ _ h)
    · have h := gF_go hc h
      refine A_iload_n dX11_wordHere_52 rfl ?_
      refine A_iload dX11_wordHere_53 rfl ?_
      refine A_ishr dX11_wordHere_55 ?_
      refine A_iconst (v := 1) dX11_wordHere_56 (by decide) ?_
      refine A_iand dX11_wordHere_57 ?_
      refine A_iconst (v := 1) dX11_wordHere_58 (by decide) ?_
      obtain ⟨J7, hJ7, h⟩ := jn_go h
      have JJ7 : ∀ (z8 : Int32) (M9 : Mem), J7 z8 M9 = some (r, Mr) → AT l g RX11 cX11_wordHere 6 (some .int) (rmM 1 20) (PI r Mr) 97 [some (.ref (g.1 11)), some (.int v1), some (.int v2), some (.int v3), some (.int v4), none] [.int z8] M9 := by
        intro z8 M9 h
        rw [hJ7] at h
        refine A_istore5 dX11_wordHere_97 (by decide) rfl ?_
        refine A_iload_n dX11_wordHere_99 rfl ?_
        refine A_iload dX11_wordHere_100 rfl ?_
        obtain ⟨J10, hJ10, h⟩ := jn_go h
        have JJ10 : ∀ (z11 : Int32), J10 z11 = some (r, Mr) → AT l g RX11 cX11_wordHere 6 (some .int) (rmM 1 20) (PI r Mr) 113 [some (.ref (g.1 11)), some (.int v1), some (.int v2), some (.int v3), some (.int v4), some (.int z8)] [.int z11, .int v3] M9 := by
          intro z11 h
          rw [hJ10] at h
          refine A_ior dX11_wordHere_113 ?_
          refine A_istoren3 dX11_wordHere_114 (by decide) rfl (bI_go h (G := fun z => AT l g RX11 cX11_wordHere 6 (some .int) (rmM 1 20) (PI r Mr) 115 [some (.ref (g.1 11)), some (.int v1), some (.int v2), some (.int z), some (.int v4), some (.int z8)] [] M9) (fun x12 h => ?_))
          refine A_iinc4 (d := 1) dX11_wordHere_115 (by decide) (by decide) rfl ?_
          refine A_goto dX11_wordHere_118 ?_
          exact A_le (lvLe_s (lvLe_s (lvLe_s (lvLe_s (lvLe_s (lvLe_n lvLe_0)))))) (ih46 _ _ _ K46 h hK46)
        refine A_if_eq dX11_wordHere_102 (fun hc => ?_) (fun hc => ?_)
        · have h := gT_go hc h
          refine A_iconst (v := 0) dX11_wordHere_112 (by decide) ?_
          exact A_le (lvLe_s (lvLe_s (lvLe_s (lvLe_s (lvLe_s (lvLe_s lvLe_0)))))) (JJ10 _ h)
        · have h := gF_go hc h
          refine A_iconst (v := 1) dX11_wordHere_105 (by decide) ?_
          refine A_iload dX11_wordHere_106 rfl ?_
          refine A_ishl dX11_wordHere_108 ?_
          refine A_goto dX11_wordHere_109 ?_
          exact A_le (lvLe_s (lvLe_s (lvLe_s (lvLe_s (lvLe_s (lvLe_s lvLe_0)))))) (JJ10 _ h)
      refine A_icmp_ne dX11_wordHere_59 (fun hc => ?_) (fun hc => ?_)
      · have h := gF_go hc h
        refine A_iconst (v := 0) dX11_wordHere_96 (by decide) ?_
        exact A_le (lvLe_s (lvLe_s (lvLe_s (lvLe_s (lvLe_s (lvLe_n lvLe_0)))))) (JJ7 _ _ h)
      · have h := gT_go hc h
        refine A_gets dX11_wordHere_62 sl_X11_204 (fun _ _ _ hst => hst.2.2.1.1) ?_
        refine A_iconst (v := 5) dX11_wordHere_65 (by decide) ?_
        refine A_iload dX11_wordHere_66 rfl ?_
        refine A_imul dX11_wordHere_68 ?_
        refine A_iload_n dX11_wordHere_69 rfl ?_
        refine A_iadd dX11_wordHere_70 ?_
        obtain ⟨hg, h⟩ := gV_go h
        refine A_tald (f := tbW) dX11_wordHere_71 (fun _ _ _ hst => hst.2.2.1.2) hg ?_
        refine A_if_le dX11_wordHere_72 (fun hc => ?_) (fun hc => ?_)
        · have h := gT_go hc h
          refine A_iconst (v := 0) dX11_wordHere_96 (by decide) ?_
          exact A_le (lvLe_s (lvLe_s (lvLe_s (lvLe_s (lvLe_s (lvLe_n lvLe_0)))))) (JJ7 _ _ h)
        · have h := gF_go hc h
          refine A_aload_n dX11_wordHere_75 rfl ?_
          obtain ⟨r14, M13, h1, h⟩ := bE_go h
          refine A_cVi0 dX11_wordHere_76 ml_X11_207 mb_X11_here mi_X11_here ob11 rfl rfl ⟨Nat.le_of_ble_eq_true rfl, Nat.le_of_ble_eq_true rfl⟩ (Nat.le_of_ble_eq_true rfl) (ok_X11_here h1) ?_
          refine A_gets dX11_wordHere_79 sl_X11_204 (fun _ _ _ hst => hst.2.2.1.1) ?_
          refine A_iconst (v := 5) dX11_wordHere_82 (by decide) ?_
          refine A_iload dX11_wordHere_83 rfl ?_
          refine A_imul dX11_wordHere_85 ?_
          refine A_iload_n dX11_wordHere_86 rfl ?_
          refine A_iadd dX11_wordHere_87 ?_
          obtain ⟨hg, h⟩ := gV_go h
          refine A_tald (f := tbW) dX11_wordHere_88 (fun _ _ _ hst => hst.2.2.1.2) hg ?_
          refine A_icmp_ne dX11_wordHere_89 (fun hc => ?_) (fun hc => ?_)
          · have h := gF_go hc h
            refine A_iconst (v := 0) dX11_wordHere_96 (by decide) ?_
            exact A_le (lvLe_s (lvLe_s (lvLe_s (lvLe_s (lvLe_s (lvLe_n lvLe_0)))))) (JJ7 _ _ h)
          · have h := gT_go hc h
            refine A_iconst (v := 1) dX11_wordHere_92 (by decide) ?_
            refine A_goto dX11_wordHere_93 ?_
            exact A_le (lvLe_s (lvLe_s (lvLe_s (lvLe_s (lvLe_s (lvLe_n lvLe_0)))))) (JJ7 _ _ h)
def f_X11_wordHere_L142 (v1 : Int32) (v2 : Int32) (v3 : Int32) : Nat → Int32 → Mem → (Int32 → Mem → Option Ret) → Option Ret
  | 0, _, _, _ => none
  | k142 + 1, v4, M, K142 => if (5 : Int32) ≤ v4 then (K142 v4 M) else (if ((v1 >>> (v4 &&& 31)) &&& (1 : Int32)) = (1 : Int32) then (if v2 = (4 : Int32) then (some (v4, M)) else (gV ((((5 : Int32) * v4) + v2) + (1 : Int32)) 25 (if (tbW ((((5 : Int32) * v4) + v2) + (1 : Int32)).toNatClampNeg) = 0 then (some (v4, M)) else (f_X11_wordHere_L142 v1 v2 v3 k142 (v4 + (1 : Int32)) M K142)))) else (f_X11_wordHere_L142 v1 v2 v3 k142 (v4 + (1 : Int32)) M K142))
set_option maxRecDepth 100000 in
theorem f_X11_wordHere_L142_ok {l : Launch} {g : Cx} (v1 : Int32) (v2 : Int32) (v3 : Int32)  {r : Int32} {Mr : Mem} : ∀ (k : Nat) (v4 : Int32) (M : Mem) (K142 : Int32 → Mem → Option Ret), f_X11_wordHere_L142 v1 v2 v3 k v4 M K142 = some (r, Mr) → (∀ (v4 : Int32) (M : Mem), K142 v4 M = some (r, Mr) → AT l g RX11 cX11_wordHere 6 (some .int) (rmM 1 20) (PI r Mr) 187 [some (.ref (g.1 11)), some (.int v1), some (.int v2), some (.int v3), some (.int v4), none] [] M) → AT l g RX11 cX11_wordHere 6 (some .int) (rmM 1 20) (PI r Mr) 142 [some (.ref (g.1 11)), some (.int v1), some (.int v2), some (.int v3), some (.int v4), none] [] M
  | 0, v4, M, K142, h, hK142 => by cases h
  | k142 + 1, v4, M, K142, h, hK142 => by
    have ih142 := f_X11_wordHere_L142_ok (l := l) (g := g) v1 v2 v3 (r := r) (Mr := Mr) k142
    rw [f_X11_wordHere_L142] at h
    refine A_iload dX11_wordHere_142 rfl ?_
    refine A_iconst (v := 5) dX11_wordHere_144 (by decide) ?_
    refine A_icmp_ge dX11_wordHere_145 (fun hc => ?_) (fun hc => ?_)
    · have h := gT_go hc h
      exact A_le (lvLe_s (lvLe_s (lvLe_s (lvLe_s (lvLe_s (lvLe_n lvLe_0)))))) (hK142 _ _ h)
    · have h := gF_go hc h
      refine A_iload_n dX11_wordHere_148 rfl ?_
      refine A_iload dX11_wordHere_149 rfl ?_
      refine A_ishr dX11_wordHere_151 ?_
      refine A_iconst (v := 1) dX11_wordHere_152 (by decide) ?_
      refine A_iand dX11_wordHere_153 ?_
      refine A_iconst (v := 1) dX11_wordHere_154 (by decide) ?_
      refine A_icmp_ne dX11_wordHere_155 (fun hc => ?_) (fun hc => ?_)
      · have h := gF_go hc h
        refine A_iinc4 (d := 1) dX11_wordHere_181 (by decide) (by decide) rfl ?_
        refine A_goto dX11_wordHere_184 ?_
        exact A_le (lvLe_s (lvLe_s (lvLe_s (lvLe_s (lvLe_s (lvLe_n lvLe_0)))))) (ih142 _ _ K142 h hK142)
      · have h := gT_go hc h
        refine A_iload_n dX11_wordHere_158 rfl ?_
        refine A_iconst (v := 4) dX11_wordHere_159 (by decide) ?_
        refine A_icmp_eq dX11_wordHere_160 (fun hc => ?_) (fun hc => ?_)
        · have h := gT_go hc h
          refine A_iload dX11_wordHere_178 rfl ?_
          exact A_iret dX11_wordHere_180 (pI_go h)
        · have h := gF_go hc h
          refine A_gets dX11_wordHere_163 sl_X11_204 (fun _ _ _ hst => hst.2.2.1.1) ?_
          refine A_iconst (v := 5) dX11_wordHere_166 (by decide) ?_
          refine A_iload dX11_wordHere_167 rfl ?_
          refine A_imul dX11_wordHere_169 ?_
          refine A_iload_n dX11_wordHere_170 rfl ?_
          refine A_iadd dX11_wordHere_171 ?_
          refine A_iconst (v := 1) dX11_wordHere_172 (by decide) ?_
          refine A_iadd dX11_wordHere_173 ?_
          obtain ⟨hg, h⟩ := gV_go h
          refine A_tald (f := tbW) dX11_wordHere_174 (fun _ _ _ hst => hst.2.2.1.2) hg ?_
          refine A_if_ne dX11_wordHere_175 (fun hc => ?_) (fun hc => ?_)
          · have h := gF_go hc h
            refine A_iinc4 (d := 1) dX11_wordHere_181 (by decide) (by decide) rfl ?_
            refine A_goto dX11_wordHere_184 ?_
            exact A_le (lvLe_s (lvLe_s (lvLe_s (lvLe_s (lvLe_s (lvLe_n lvLe_0)))))) (ih142 _ _ K142 h hK142)
          · have h := gT_go hc h
            refine A_iload dX11_wordHere_178 rfl ?_
            exact A_iret dX11_wordHere_180 (pI_go h)
def f_X11_wordHere_L36  : Nat → Int32 → Int32 → Mem → (Int32 → Int32 → Mem → Option Ret) → Option Ret
  | 0, _, _, _, _ => none
  | k36 + 1, v1, v2, M, K36 => if (5 : Int32) ≤ v2 then (K36 v1 v2 M) else (f_X11_wordHere_L46 v1 v2 FU (0 : Int32) (0 : Int32) M (fun w15 w16 M17 => if w15 = 0 then (some ((-1 : Int32), M17)) else (bM (up2 M17 11 44 ((M17.1 11 44) + (1 : Int32))) (fun M18 => f_X11_wordHere_L142 w15 v2 w15 FU (0 : Int32) M18 (fun w19 M20 => f_X11_wordHere_L36  k36 w15 (v2 + (1 : Int32)) M20 K36)))))
set_option maxRecDepth 100000 in
theorem f_X11_wordHere_L36_ok {l : Launch} {g : Cx}   {r : Int32} {Mr : Mem} : ∀ (k : Nat) (v1 : Int32) (v2 : Int32) (M : Mem) (K36 : Int32 → Int32 → Mem → Option Ret), f_X11_wordHere_L36  k v1 v2 M K36 = some (r, Mr) → (∀ (v1 : Int32) (v2 : Int32) (M : Mem), K36 v1 v2 M = some (r, Mr) → AT l g RX11 cX11_wordHere 6 (some .int) (rmM 1 20) (PI r Mr) 193 [some (.ref (g.1 11)), some (.int v1), some (.int v2), none, none, none] [] M) → AT l g RX11 cX11_wordHere 6 (some .int) (rmM 1 20) (PI r Mr) 36 [some (.ref (g.1 11)), some (.int v1), some (.int v2), none, none, none] [] M
  | 0, v1, v2, M, K36, h, hK36 => by cases h
  | k36 + 1, v1, v2, M, K36, h, hK36 => by
    have ih36 := f_X11_wordHere_L36_ok (l := l) (g := g)  (r := r) (Mr := Mr) k36
    rw [f_X11_wordHere_L36] at h
    refine A_iload_n dX11_wordHere_36 rfl ?_
    refine A_iconst (v := 5) dX11_wordHere_37 (by decide) ?_
    refine A_icmp_ge dX11_wordHere_38 (fun hc => ?_) (fun hc => ?_)
    · have h := gT_go hc h
      exact A_le (lvLe_s (lvLe_s (lvLe_s (lvLe_n (lvLe_n (lvLe_n lvLe_0)))))) (hK36 _ _ _ h)
    · have h := gF_go hc h
      refine A_iconst (v := 0) dX11_wordHere_41 (by decide) ?_
      refine A_istoren3 dX11_wordHere_42 (by decide) rfl ?_
      refine A_iconst (v := 0) dX11_wordHere_43 (by decide) ?_
      refine A_istore4 dX11_wordHere_44 (by decide) rfl ?_
      refine f_X11_wordHere_L46_ok _ _ FU _ _ _ _ h (fun w15 w16 M17 h => ?_)
      refine A_iload_n dX11_wordHere_121 rfl ?_
      refine A_if_ne dX11_wordHere_122 (fun hc => ?_) (fun hc => ?_)
      · have h := gF_go hc h
        refine A_iload_n dX11_wordHere_127 rfl ?_
        refine A_istoren1 dX11_wordHere_128 (by decide) rfl ?_
        refine A_aload_n dX11_wordHere_129 rfl ?_
        refine A_dup dX11_wordHere_130 rfl ?_
        refine A_getf dX11_wordHere_131 fw_X11_201 ob11 rfl ?_
        refine A_iconst (v := 1) dX11_wordHere_134 (by decide) ?_
        refine A_iadd dX11_wordHere_135 ?_
        refine A_putf dX11_wordHere_136 pw_X11_201 ob11 pf11_44 (Nat.le_of_ble_eq_true rfl) (bM_go h (fun M18 h => ?_))
        refine A_iconst (v := 0) dX11_wordHere_139 (by decide) ?_
        refine A_istore4 dX11_wordHere_140 (by decide) rfl ?_
        refine f_X11_wordHere_L142_ok _ _ _ FU _ _ _ h (fun w19 M20 h => ?_)
        refine A_iinc2 (d := 1) dX11_wordHere_187 (by decide) (by decide) rfl ?_
        refine A_goto dX11_wordHere_190 ?_
        exact A_le (lvLe_s (lvLe_s (lvLe_s (lvLe_n (lvLe_n (lvLe_n lvLe_0)))))) (ih36 _ _ _ K36 h hK36)
      · have h := gT_go hc h
        refine A_iconst (v := -1) dX11_wordHere_125 (by decide) ?_
        exact A_iret dX11_wordHere_126 (pI_go h)
def f_X11_wordHere  (M : Mem) : Option Ret := f_X11_wordHere_L4  FU (0 : Int32) (0 : Int32) M (fun w4 w5 M6 => f_X11_wordHere_L36  FU w4 (0 : Int32) M6 (fun w21 w22 M23 => some ((-1 : Int32), M23)))
set_option maxRecDepth 100000 in
theorem ok_X11_wordHere {l : Launch} {g : Cx}  {M : Mem} {r : Int32} {Mr : Mem} (h : f_X11_wordHere  M = some (r, Mr)) : CT l g yX11_wordHere cX11_wordHere 6 (some .int) 1 20 [.ref (g.1 11)] M (PI r Mr) := by
  refine CT_of (lv := [some (.ref (g.1 11)), none, none, none, none, none]) (by decide) rfl (Nat.le_of_ble_eq_true rfl) ?_
  unfold f_X11_wordHere at h
  refine A_iconst (v := 0) dX11_wordHere_0 (by decide) ?_
  refine A_istoren1 dX11_wordHere_1 (by decide) rfl ?_
  refine A_iconst (v := 0) dX11_wordHere_2 (by decide) ?_
  refine A_istoren2 dX11_wordHere_3 (by decide) rfl ?_
  refine f_X11_wordHere_L4_ok  FU _ _ _ _ h (fun w4 w5 M6 h => ?_)
  refine A_iconst (v := 0) dX11_wordHere_34 (by decide) ?_
  refine A_istoren2 dX11_wordHere_35 (by decide) rfl ?_
  refine f_X11_wordHere_L36_ok  FU _ _ _ _ h (fun w21 w22 M23 h => ?_)
  refine A_iconst (v := -1) dX11_wordHere_193 (by decide) ?_
  exact A_iret dX11_wordHere_194 (pI_go h)
-- BenchTimesModel.readAll
theorem dX11_readAll_0 : di cX11_readAll 0 (.iconst 0) 1 1 := ⟨by decide +kernel, rfl⟩
theorem dX11_readAll_1 : di cX11_readAll 1 (.istore_n 1) 1 2 := ⟨by decide +kernel, rfl⟩
theorem dX11_readAll_2 : di cX11_readAll 2 (.iload_n 1) 1 3 := ⟨by decide +kernel, rfl⟩
theorem dX11_readAll_3 : di cX11_readAll 3 (.iconst 5) 1 4 := ⟨by decide +kernel, rfl⟩
theorem dX11_readAll_4 : dj cX11_readAll 4 (.if_icmp .ge) 7 20 := ⟨16, by decide +kernel, rfl, rfl⟩
theorem dX11_readAll_7 : di cX11_readAll 7 (.aload_n 0) 1 8 := ⟨by decide +kernel, rfl⟩
theorem dX11_readAll_8 : di cX11_readAll 8 (.getfield 111) 3 11 := ⟨by decide +kernel, rfl⟩
theorem dX11_readAll_11 : di cX11_readAll 11 (.iload_n 1) 1 12 := ⟨by decide +kernel, rfl⟩
theorem dX11_readAll_12 : di cX11_readAll 12 (.iconst (-1)) 1 13 := ⟨by decide +kernel, rfl⟩
theorem dX11_readAll_13 : di cX11_readAll 13 (.iastore) 1 14 := ⟨by decide +kernel, rfl⟩
theorem dX11_readAll_14 : di cX11_readAll 14 (.iinc 1 1) 3 17 := ⟨by decide +kernel, rfl⟩
theorem dX11_readAll_17 : dj cX11_readAll 17 .goto 20 2 := ⟨-15, by decide +kernel, rfl, rfl⟩
theorem dX11_readAll_20 : di cX11_readAll 20 (.aload_n 0) 1 21 := ⟨by decide +kernel, rfl⟩
theorem dX11_readAll_21 : di cX11_readAll 21 (.iconst 0) 1 22 := ⟨by decide +kernel, rfl⟩
theorem dX11_readAll_22 : di cX11_readAll 22 (.putfield 201) 3 25 := ⟨by decide +kernel, rfl⟩
theorem dX11_readAll_25 : di cX11_readAll 25 (.aload_n 0) 1 26 := ⟨by decide +kernel, rfl⟩
theorem dX11_readAll_26 : di cX11_readAll 26 (.getfield 201) 3 29 := ⟨by decide +kernel, rfl⟩
theorem dX11_readAll_29 : di cX11_readAll 29 (.aload_n 0) 1 30 := ⟨by decide +kernel, rfl⟩
theorem dX11_readAll_30 : di cX11_readAll 30 (.getfield 198) 3 33 := ⟨by decide +kernel, rfl⟩
theorem dX11_readAll_33 : dj cX11_readAll 33 (.if_icmp .ge) 36 175 := ⟨142, by decide +kernel, rfl, rfl⟩
theorem dX11_readAll_36 : di cX11_readAll 36 (.aload_n 0) 1 37 := ⟨by decide +kernel, rfl⟩
theorem dX11_readAll_37 : di cX11_readAll 37 (.invokevirtual 211) 3 40 := ⟨by decide +kernel, rfl⟩
theorem dX11_readAll_40 : di cX11_readAll 40 (.istore_n 1) 1 41 := ⟨by decide +kernel, rfl⟩
theorem dX11_readAll_41 : di cX11_readAll 41 (.iload_n 1) 1 42 := ⟨by decide +kernel, rfl⟩
theorem dX11_readAll_42 : dj cX11_readAll 42 (.ifCond .lt) 45 54 := ⟨12, by decide +kernel, rfl, rfl⟩
theorem dX11_readAll_45 : di cX11_readAll 45 (.aload_n 0) 1 46 := ⟨by decide +kernel, rfl⟩
theorem dX11_readAll_46 : di cX11_readAll 46 (.invokevirtual 207) 3 49 := ⟨by decide +kernel, rfl⟩
theorem dX11_readAll_49 : di cX11_readAll 49 (.bipush 32) 2 51 := ⟨by decide +kernel, rfl⟩
theorem dX11_readAll_51 : dj cX11_readAll 51 (.if_icmp .eq) 54 59 := ⟨8, by decide +kernel, rfl, rfl⟩
theorem dX11_readAll_54 : di cX11_readAll 54 (.aload_n 0) 1 55 := ⟨by decide +kernel, rfl⟩
theorem dX11_readAll_55 : di cX11_readAll 55 (.getfield 201) 3 58 := ⟨by decide +kernel, rfl⟩
theorem dX11_readAll_58 : di cX11_readAll 58 (.ireturn) 1 59 := ⟨by decide +kernel, rfl⟩
theorem dX11_readAll_59 : di cX11_readAll 59 (.aload_n 0) 1 60 := ⟨by decide +kernel, rfl⟩
theorem dX11_readAll_60 : di cX11_readAll 60 (.dup) 1 61 := ⟨by decide +kernel, rfl⟩
theorem dX11_readAll_61 : di cX11_readAll 61 (.getfield 201) 3 64 := ⟨by decide +kernel, rfl⟩
theorem dX11_readAll_64 : di cX11_readAll 64 (.iconst 1) 1 65 := ⟨by decide +kernel, rfl⟩
theorem dX11_readAll_65 : di cX11_readAll 65 (.iadd) 1 66 := ⟨by decide +kernel, rfl⟩
theorem dX11_readAll_66 : di cX11_readAll 66 (.putfield 201) 3 69 := ⟨by decide +kernel, rfl⟩
theorem dX11_readAll_69 : di cX11_readAll 69 (.iconst 0) 1 70 := ⟨by decide +kernel, rfl⟩
theorem dX11_readAll_70 : di cX11_readAll 70 (.istore_n 2) 1 71 := ⟨by decide +kernel, rfl⟩
theorem dX11_readAll_71 : di cX11_readAll 71 (.iconst 0) 1 72 := ⟨by decide +kernel, rfl⟩
theorem dX11_readAll_72 : di cX11_readAll 72 (.istore_n 3) 1 73 := ⟨by decide +kernel, rfl⟩
theorem dX11_readAll_73 : di cX11_readAll 73 (.iload_n 3) 1 74 := ⟨by decide +kernel, rfl⟩
theorem dX11_readAll_74 : di cX11_readAll 74 (.iconst 3) 1 75 := ⟨by decide +kernel, rfl⟩
theorem dX11_readAll_75 : dj cX11_readAll 75 (.if_icmp .ge) 78 121 := ⟨46, by decide +kernel, rfl, rfl⟩
theorem dX11_readAll_78 : di cX11_readAll 78 (.aload_n 0) 1 79 := ⟨by decide +kernel, rfl⟩
theorem dX11_readAll_79 : di cX11_readAll 79 (.invokevirtual 207) 3 82 := ⟨by decide +kernel, rfl⟩
theorem dX11_readAll_82 : di cX11_readAll 82 (.bipush 48) 2 84 := ⟨by decide +kernel, rfl⟩
theorem dX11_readAll_84 : di cX11_readAll 84 (.bipush 57) 2 86 := ⟨by decide +kernel, rfl⟩
theorem dX11_readAll_86 : di cX11_readAll 86 (.invokestatic 133) 3 89 := ⟨by decide +kernel, rfl⟩
theorem dX11_readAll_89 : dj cX11_readAll 89 (.ifCond .eq) 92 121 := ⟨32, by decide +kernel, rfl, rfl⟩
theorem dX11_readAll_92 : di cX11_readAll 92 (.bipush 10) 2 94 := ⟨by decide +kernel, rfl⟩
theorem dX11_readAll_94 : di cX11_readAll 94 (.iload_n 2) 1 95 := ⟨by decide +kernel, rfl⟩
theorem dX11_readAll_95 : di cX11_readAll 95 (.imul) 1 96 := ⟨by decide +kernel, rfl⟩
theorem dX11_readAll_96 : di cX11_readAll 96 (.aload_n 0) 1 97 := ⟨by decide +kernel, rfl⟩
theorem dX11_readAll_97 : di cX11_readAll 97 (.invokevirtual 207) 3 100 := ⟨by decide +kernel, rfl⟩
theorem dX11_readAll_100 : di cX11_readAll 100 (.iadd) 1 101 := ⟨by decide +kernel, rfl⟩
theorem dX11_readAll_101 : di cX11_readAll 101 (.bipush 48) 2 103 := ⟨by decide +kernel, rfl⟩
theorem dX11_readAll_103 : di cX11_readAll 103 (.isub) 1 104 := ⟨by decide +kernel, rfl⟩
theorem dX11_readAll_104 : di cX11_readAll 104 (.istore_n 2) 1 105 := ⟨by decide +kernel, rfl⟩
theorem dX11_readAll_105 : di cX11_readAll 105 (.aload_n 0) 1 106 := ⟨by decide +kernel, rfl⟩
theorem dX11_readAll_106 : di cX11_readAll 106 (.dup) 1 107 := ⟨by decide +kernel, rfl⟩
theorem dX11_readAll_107 : di cX11_readAll 107 (.getfield 201) 3 110 := ⟨by decide +kernel, rfl⟩
theorem dX11_readAll_110 : di cX11_readAll 110 (.iconst 1) 1 111 := ⟨by decide +kernel, rfl⟩
theorem dX11_readAll_111 : di cX11_readAll 111 (.iadd) 1 112 := ⟨by decide +kernel, rfl⟩
theorem dX11_readAll_112 : di cX11_readAll 112 (.putfield 201) 3 115 := ⟨by decide +kernel, rfl⟩
theorem dX11_readAll_115 : di cX11_readAll 115 (.iinc 3 1) 3 118 := ⟨by decide +kernel, rfl⟩
theorem dX11_readAll_118 : dj cX11_readAll 118 .goto 121 73 := ⟨-45, by decide +kernel, rfl, rfl⟩
theorem dX11_readAll_121 : di cX11_readAll 121 (.iload_n 3) 1 122 := ⟨by decide +kernel, rfl⟩
theorem dX11_readAll_122 : dj cX11_readAll 122 (.ifCond .eq) 125 150 := ⟨28, by decide +kernel, rfl, rfl⟩
theorem dX11_readAll_125 : di cX11_readAll 125 (.iload_n 2) 1 126 := ⟨by decide +kernel, rfl⟩
theorem dX11_readAll_126 : di cX11_readAll 126 (.iload_n 1) 1 127 := ⟨by decide +kernel, rfl⟩
theorem dX11_readAll_127 : di cX11_readAll 127 (.iconst 1) 1 128 := ⟨by decide +kernel, rfl⟩
theorem dX11_readAll_128 : dj cX11_readAll 128 (.if_icmp .ne) 131 136 := ⟨8, by decide +kernel, rfl, rfl⟩
theorem dX11_readAll_131 : di cX11_readAll 131 (.bipush 52) 2 133 := ⟨by decide +kernel, rfl⟩
theorem dX11_readAll_133 : dj cX11_readAll 133 .goto 136 138 := ⟨5, by decide +kernel, rfl, rfl⟩
theorem dX11_readAll_136 : di cX11_readAll 136 (.bipush 100) 2 138 := ⟨by decide +kernel, rfl⟩
theorem dX11_readAll_138 : dj cX11_readAll 138 (.if_icmp .gt) 141 150 := ⟨12, by decide +kernel, rfl, rfl⟩
theorem dX11_readAll_141 : di cX11_readAll 141 (.aload_n 0) 1 142 := ⟨by decide +kernel, rfl⟩
theorem dX11_readAll_142 : di cX11_readAll 142 (.invokevirtual 207) 3 145 := ⟨by decide +kernel, rfl⟩
theorem dX11_readAll_145 : di cX11_readAll 145 (.bipush 59) 2 147 := ⟨by decide +kernel, rfl⟩
theorem dX11_readAll_147 : dj cX11_readAll 147 (.if_icmp .eq) 150 155 := ⟨8, by decide +kernel, rfl, rfl⟩
theorem dX11_readAll_150 : di cX11_readAll 150 (.aload_n 0) 1 151 := ⟨by decide +kernel, rfl⟩
theorem dX11_readAll_151 : di cX11_readAll 151 (.getfield 201) 3 154 := ⟨by decide +kernel, rfl⟩
theorem dX11_readAll_154 : di cX11_readAll 154 (.ireturn) 1 155 := ⟨by decide +kernel, rfl⟩
theorem dX11_readAll_155 : di cX11_readAll 155 (.aload_n 0) 1 156 := ⟨by decide +kernel, rfl⟩
theorem dX11_readAll_156 : di cX11_readAll 156 (.dup) 1 157 := ⟨by decide +kernel, rfl⟩
theorem dX11_readAll_157 : di cX11_readAll 157 (.getfield 201) 3 160 := ⟨by decide +kernel, rfl⟩
theorem dX11_readAll_160 : di cX11_readAll 160 (.iconst 1) 1 161 := ⟨by decide +kernel, rfl⟩
theorem dX11_readAll_161 : di cX11_readAll 161 (.iadd) 1 162 := ⟨by decide +kernel, rfl⟩
theorem dX11_readAll_162 : di cX11_readAll 162 (.putfield 201) 3 165 := ⟨by decide +kernel, rfl⟩
theorem dX11_readAll_165 : di cX11_readAll 165 (.aload_n 0) 1 166 := ⟨by decide +kernel, rfl⟩
theorem dX11_readAll_166 : di cX11_readAll 166 (.getfield 111) 3 169 := ⟨by decide +kernel, rfl⟩
theorem dX11_readAll_169 : di cX11_readAll 169 (.iload_n 1) 1 170 := ⟨by decide +kernel, rfl⟩
theorem dX11_readAll_170 : di cX11_readAll 170 (.iload_n 2) 1 171 := ⟨by decide +kernel, rfl⟩
theorem dX11_readAll_171 : di cX11_readAll 171 (.iastore) 1 172 := ⟨by decide +kernel, rfl⟩
theorem dX11_readAll_172 : dj cX11_readAll 172 .goto 175 25 := ⟨-147, by decide +kernel, rfl, rfl⟩
theorem dX11_readAll_175 : di cX11_readAll 175 (.iconst (-1)) 1 176 := ⟨by decide +kernel, rfl⟩
theorem dX11_readAll_176 : di cX11_readAll 176 (.ireturn) 1 177 := ⟨by decide +kernel, rfl⟩
def f_X11_readAll_L2  : Nat → Int32 → Mem → (Int32 → Mem → Option Ret) → Option Ret
  | 0, _, _, _ => none
  | k2 + 1, v1, M, K2 => if (5 : Int32) ≤ v1 then (K2 v1 M) else (gV v1 5 (bM (up2 M 97 v1.toNatClampNeg (-1 : Int32)) (fun M1 => f_X11_readAll_L2  k2 (v1 + (1 : Int32)) M1 K2)))
set_option maxRecDepth 100000 in
theorem f_X11_readAll_L2_ok {l : Launch} {g : Cx}   {r : Int32} {Mr : Mem} : ∀ (k : Nat) (v1 : Int32) (M : Mem) (K2 : Int32 → Mem → Option Ret), f_X11_readAll_L2  k v1 M K2 = some (r, Mr) → (∀ (v1 : Int32) (M : Mem), K2 v1 M = some (r, Mr) → AT l g RX11 cX11_readAll 4 (some .int) (rmM 2 45) (PI r Mr) 20 [some (.ref (g.1 11)), some (.int v1), none, none] [] M) → AT l g RX11 cX11_readAll 4 (some .int) (rmM 2 45) (PI r Mr) 2 [some (.ref (g.1 11)), some (.int v1), none, none] [] M
  | 0, v1, M, K2, h, hK2 => by cases h
  | k2 + 1, v1, M, K2, h, hK2 => by
    have ih2 := f_X11_readAll_L2_ok (l := l) (g := g)  (r := r) (Mr := Mr) k2
    rw [f_X11_readAll_L2] at h
    refine A_iload_n dX11_readAll_2 rfl ?_
    refine A_iconst (v := 5) dX11_readAll_3 (by decide) ?_
    refine A_icmp_ge dX11_readAll_4 (fun hc => ?_) (fun hc => ?_)
    · have h := gT_go hc h
      exact A_le (lvLe_s (lvLe_s (lvLe_n (lvLe_n lvLe_0)))) (hK2 _ _ h)
    · have h := gF_go hc h
      refine A_aload_n dX11_readAll_7 rfl ?_
      refine A_getf dX11_readAll_8 fw_X11_111 ob11 rfl ?_
      refine A_iload_n dX11_readAll_11 rfl ?_
      refine A_iconst (v := -1) dX11_readAll_12 (by decide) ?_
      obtain ⟨hg, h⟩ := gV_go h
      refine A_iast dX11_readAll_13 ia97 hg (bM_go h (fun M1 h => ?_))
      refine A_iinc1 (d := 1) dX11_readAll_14 (by decide) (by decide) rfl ?_
      refine A_goto dX11_readAll_17 ?_
      exact A_le (lvLe_s (lvLe_s (lvLe_n (lvLe_n lvLe_0)))) (ih2 _ _ K2 h hK2)
def f_X11_readAll_L73 (v1 : Int32) : Nat → Int32 → Int32 → Mem → (Int32 → Int32 → Mem → Option Ret) → Option Ret
  | 0, _, _, _, _ => none
  | k73 + 1, v2, v3, M, K73 => if (3 : Int32) ≤ v3 then (K73 v2 v3 M) else (bE (f_X11_here M) (fun r11 M10 => bE (f_X11_isIn r11 (48 : Int32) (57 : Int32) M10) (fun r13 M12 => if r13 = 0 then (K73 v2 v3 M12) else (bE (f_X11_here M12) (fun r15 M14 => bI ((((10 : Int32) * v2) + r15) - (48 : Int32)) (fun x16 => bM (up2 M14 11 44 ((M14.1 11 44) + (1 : Int32))) (fun M17 => f_X11_readAll_L73 v1 k73 x16 (v3 + (1 : Int32)) M17 K73)))))))
set_option maxRecDepth 100000 in
theorem f_X11_readAll_L73_ok {l : Launch} {g : Cx} (v1 : Int32)  {r : Int32} {Mr : Mem} : ∀ (k : Nat) (v2 : Int32) (v3 : Int32) (M : Mem) (K73 : Int32 → Int32 → Mem → Option Ret), f_X11_readAll_L73 v1 k v2 v3 M K73 = some (r, Mr) → (∀ (v2 : Int32) (v3 : Int32) (M : Mem), K73 v2 v3 M = some (r, Mr) → AT l g RX11 cX11_readAll 4 (some .int) (rmM 2 45) (PI r Mr) 121 [some (.ref (g.1 11)), some (.int v1), some (.int v2), some (.int v3)] [] M) → AT l g RX11 cX11_readAll 4 (some .int) (rmM 2 45) (PI r Mr) 73 [some (.ref (g.1 11)), some (.int v1), some (.int v2), some (.int v3)] [] M
  | 0, v2, v3, M, K73, h, hK73 => by cases h
  | k73 + 1, v2, v3, M, K73, h, hK73 => by
    have ih73 := f_X11_readAll_L73_ok (l := l) (g := g) v1 (r := r) (Mr := Mr) k73
    rw [f_X11_readAll_L73] at h
    refine A_iload_n dX11_readAll_73 rfl ?_
    refine A_iconst (v := 3) dX11_readAll_74 (by decide) ?_
    refine A_icmp_ge dX11_readAll_75 (fun hc => ?_) (fun hc => ?_)
    · have h := gT_go hc h
      exact A_le (lvLe_s (lvLe_s (lvLe_s (lvLe_s lvLe_0)))) (hK73 _ _ _ h)
    · have h := gF_go hc h
      refine A_aload_n dX11_readAll_78 rfl ?_
      obtain ⟨r11, M10, h1, h⟩ := bE_go h
      refine A_cVi0 dX11_readAll_79 ml_X11_207 mb_X11_here mi_X11_here ob11 rfl rfl ⟨Nat.le_of_ble_eq_true rfl, Nat.le_of_ble_eq_true rfl⟩ (Nat.le_of_ble_eq_true rfl) (ok_X11_here h1) ?_
      refine A_bipush (v := 48) dX11_readAll_82 (by decide) ?_
      refine A_bipush (v := 57) dX11_readAll_84 (by decide) ?_
      obtain ⟨r13, M12, h1, h⟩ := bE_go h
      refine A_cSi3 dX11_readAll_86 ml_X11_133 mb_X11_isIn ms_X11_isIn ⟨Nat.le_of_ble_eq_true rfl, Nat.le_of_ble_eq_true rfl⟩ (Nat.le_of_ble_eq_true rfl) (ok_X11_isIn h1) ?_
      refine A_if_eq dX11_readAll_89 (fun hc => ?_) (fun hc => ?_)
      · have h := gT_go hc h
        exact A_le (lvLe_s (lvLe_s (lvLe_s (lvLe_s lvLe_0)))) (hK73 _ _ _ h)
      · have h := gF_go hc h
        refine A_bipush (v := 10) dX11_readAll_92 (by decide) ?_
        refine A_iload_n dX11_readAll_94 rfl ?_
        refine A_imul dX11_readAll_95 ?_
        refine A_aload_n dX11_readAll_96 rfl ?_
        obtain ⟨r15, M14, h1, h⟩ := bE_go h
        refine A_cVi0 dX11_readAll_97 ml_X11_207 mb_X11_here mi_X11_here ob11 rfl rfl ⟨Nat.le_of_ble_eq_true rfl, Nat.le_of_ble_eq_true rfl⟩ (Nat.le_of_ble_eq_true rfl) (ok_X11_here h1) ?_
        refine A_iadd dX11_readAll_100 ?_
        refine A_bipush (v := 48) dX11_readAll_101 (by decide) ?_
        refine A_isub dX11_readAll_103 ?_
        refine A_istoren2 dX11_readAll_104 (by decide) rfl (bI_go h (G := fun z => AT l g RX11 cX11_readAll 4 (some .int) (rmM 2 45) (PI r Mr) 105 [some (.ref (g.1 11)), some (.int v1), some (.int z), some (.int v3)] [] M14) (fun x16 h => ?_))
        refine A_aload_n dX11_readAll_105 rfl ?_
        refine A_dup dX11_readAll_106 rfl ?_
        refine A_getf dX11_readAll_107 fw_X11_201 ob11 rfl ?_
        refine A_iconst (v := 1) dX11_readAll_110 (by decide) ?_
        refine A_iadd dX11_readAll_111 ?_
        refine A_putf dX11_readAll_112 pw_X11_201 ob11 pf11_44 (Nat.le_of_ble_eq_true rfl) (bM_go h (fun M17 h => ?_))
        refine A_iinc3 (d := 1) dX11_readAll_115 (by decide) (by decide) rfl ?_
        refine A_goto dX11_readAll_118 ?_
        exact A_le (lvLe_s (lvLe_s (lvLe_s (lvLe_s lvLe_0)))) (ih73 _ _ _ K73 h hK73)
def f_X11_readAll_L25  : Nat → Int32 → Mem → (Int32 → Mem → Option Ret) → Option Ret
  | 0, _, _, _ => none
  | k25 + 1, v1, M, K25 => if (M.1 11 24) ≤ (M.1 11 44) then (K25 v1 M) else (bE (f_X11_wordHere M) (fun r6 M5 => if r6 < 0 then (some (M5.1 11 44, M5)) else (bE (f_X11_here M5) (fun r8 M7 => if r8 = (32 : Int32) then (bM (up2 M7 11 44 ((M7.1 11 44) + (1 : Int32))) (fun M9 => f_X11_readAll_L73 r6 FU (0 : Int32) (0 : Int32) M9 (fun w18 w19 M20 => if w19 = 0 then (some (M20.1 11 44, M20)) else (jn (α := Int32 → Option Ret) (fun (z22 : Int32) => if z22 < w18 then (some (M20.1 11 44, M20)) else (bE (f_X11_here M20) (fun r24 M23 => if r24 = (59 : Int32) then (bM (up2 M23 11 44 ((M23.1 11 44) + (1 : Int32))) (fun M25 => gV r6 5 (bM (up2 M25 97 r6.toNatClampNeg w18) (fun M26 => f_X11_readAll_L25  k25 r6 M26 K25)))) else (some (M23.1 11 44, M23))))) (fun J21 => if r6 = (1 : Int32) then (J21 (52 : Int32)) else (J21 (100 : Int32))))))) else (some (M7.1 11 44, M7))))))
set_option maxRecDepth 100000 in
theorem f_X11_readAll_L25_ok {l : Launch} {g : Cx}   {r : Int32} {Mr : Mem} : ∀ (k : Nat) (v1 : Int32) (M : Mem) (K25 : Int32 → Mem → Option Ret), f_X11_readAll_L25  k v1 M K25 = some (r, Mr) → (∀ (v1 : Int32) (M : Mem), K25 v1 M = some (r, Mr) → AT l g RX11 cX11_readAll 4 (some .int) (rmM 2 45) (PI r Mr) 175 [some (.ref (g.1 11)), some (.int v1), none, none] [] M) → AT l g RX11 cX11_readAll 4 (some .int) (rmM 2 45) (PI r Mr) 25 [some (.ref (g.1 11)), some (.int v1), none, none] [] M
  | 0, v1, M, K25, h, hK25 => by cases h
  | k25 + 1, v1, M, K25, h, hK25 => by
    have ih25 := f_X11_readAll_L25_ok (l := l) (g := g)  (r := r) (Mr := Mr) k25
    rw [f_X11_readAll_L25] at h
    refine A_aload_n dX11_readAll_25 rfl ?_
    refine A_getf dX11_readAll_26 fw_X11_201 ob11 rfl ?_
    refine A_aload_n dX11_readAll_29 rfl ?_
    refine A_getf dX11_readAll_30 fw_X11_198 ob11 rfl ?_
    refine A_icmp_ge dX11_readAll_33 (fun hc => ?_) (fun hc => ?_)
    · have h := gT_go hc h
      exact A_le (lvLe_s (lvLe_s (lvLe_n (lvLe_n lvLe_0)))) (hK25 _ _ h)
    · have h := gF_go hc h
      refine A_aload_n dX11_readAll_36 rfl ?_
      obtain ⟨r6, M5, h1, h⟩ := bE_go h
      refine A_cVi0 dX11_readAll_37 ml_X11_211 mb_X11_wordHere mi_X11_wordHere ob11 rfl rfl ⟨Nat.le_of_ble_eq_true rfl, Nat.le_of_ble_eq_true rfl⟩ (Nat.le_of_ble_eq_true rfl) (ok_X11_wordHere h1) ?_
      refine A_istoren1 dX11_readAll_40 (by decide) rfl ?_
      refine A_iload_n dX11_readAll_41 rfl ?_
      refine A_if_lt dX11_readAll_42 (fun hc => ?_) (fun hc => ?_)
      · have h := gT_go hc h
        refine A_aload_n dX11_readAll_54 rfl ?_
        refine A_getf dX11_readAll_55 fw_X11_201 ob11 rfl ?_
        exact A_iret dX11_readAll_58 (pI_go h)
      · have h := gF_go hc h
        refine A_aload_n dX11_readAll_45 rfl ?_
        obtain ⟨r8, M7, h1, h⟩ := bE_go h
        refine A_cVi0 dX11_readAll_46 ml_X11_207 mb_X11_here mi_X11_here ob11 rfl rfl ⟨Nat.le_of_ble_eq_true rfl, Nat.le_of_ble_eq_true rfl⟩ (Nat.le_of_ble_eq_true rfl) (ok_X11_here h1) ?_
        refine A_bipush (v := 32) dX11_readAll_49 (by decide) ?_
        refine A_icmp_eq dX11_readAll_51 (fun hc => ?_) (fun hc => ?_)
        · have h := gT_go hc h
          refine A_aload_n dX11_readAll_59 rfl ?_
          refine A_dup dX11_readAll_60 rfl ?_
          refine A_getf dX11_readAll_61 fw_X11_201 ob11 rfl ?_
          refine A_iconst (v := 1) dX11_readAll_64 (by decide) ?_
          refine A_iadd dX11_readAll_65 ?_
          refine A_putf dX11_readAll_66 pw_X11_201 ob11 pf11_44 (Nat.le_of_ble_eq_true rfl) (bM_go h (fun M9 h => ?_))
          refine A_iconst (v := 0) dX11_readAll_69 (by decide) ?_
          refine A_istoren2 dX11_readAll_70 (by decide) rfl ?_
          refine A_iconst (v := 0) dX11_readAll_71 (by decide) ?_
          refine A_istoren3 dX11_readAll_72 (by decide) rfl ?_
          refine f_X11_readAll_L73_ok _ FU _ _ _ _ h (fun w18 w19 M20 h => ?_)
          refine A_iload_n dX11_readAll_121 rfl ?_
          refine A_if_eq dX11_readAll_122 (fun hc => ?_) (fun hc => ?_)
          · have h := gT_go hc h
            refine A_aload_n dX11_readAll_150 rfl ?_
            refine A_getf dX11_readAll_151 fw_X11_201 ob11 rfl ?_
            exact A_iret dX11_readAll_154 (pI_go h)
          · have h := gF_go hc h
            refine A_iload_n dX11_readAll_125 rfl ?_
            refine A_iload_n dX11_readAll_126 rfl ?_
            refine A_iconst (v := 1) dX11_readAll_127 (by decide) ?_
            obtain ⟨J21, hJ21, h⟩ := jn_go h
            have JJ21 : ∀ (z22 : Int32), J21 z22 = some (r, Mr) → AT l g RX11 cX11_readAll 4 (some .int) (rmM 2 45) (PI r Mr) 138 [some (.ref (g.1 11)), some (.int r6), some (.int w18), some (.int w19)] [.int z22, .int w18] M20 := by
              intro z22 h
              rw [hJ21] at h
              refine A_icmp_gt dX11_readAll_138 (fun hc => ?_) (fun hc => ?_)
              · have h := gT_go hc h
                refine A_aload_n dX11_readAll_150 rfl ?_
                refine A_getf dX11_readAll_151 fw_X11_201 ob11 rfl ?_
                exact A_iret dX11_readAll_154 (pI_go h)
              · have h := gF_go hc h
                refine A_aload_n dX11_readAll_141 rfl ?_
                obtain ⟨r24, M23, h1, h⟩ := bE_go h
                refine A_cVi0 dX11_readAll_142 ml_X11_207 mb_X11_here mi_X11_here ob11 rfl rfl ⟨Nat.le_of_ble_eq_true rfl, Nat.le_of_ble_eq_true rfl⟩ (Nat.le_of_ble_eq_true rfl) (ok_X11_here h1) ?_
                refine A_bipush (v := 59) dX11_readAll_145 (by decide) ?_
                refine A_icmp_eq dX11_readAll_147 (fun hc => ?_) (fun hc => ?_)
                · have h := gT_go hc h
                  refine A_aload_n dX11_readAll_155 rfl ?_
                  refine A_dup dX11_readAll_156 rfl ?_
                  refine A_getf dX11_readAll_157 fw_X11_201 ob11 rfl ?_
                  refine A_iconst (v := 1) dX11_readAll_160 (by decide) ?_
                  refine A_iadd dX11_readAll_161 ?_
                  refine A_putf dX11_readAll_162 pw_X11_201 ob11 pf11_44 (Nat.le_of_ble_eq_true rfl) (bM_go h (fun M25 h => ?_))
                  refine A_aload_n dX11_readAll_165 rfl ?_
                  refine A_getf dX11_readAll_166 fw_X11_111 ob11 rfl ?_
                  refine A_iload_n dX11_readAll_169 rfl ?_
                  refine A_iload_n dX11_readAll_170 rfl ?_
                  obtain ⟨hg, h⟩ := gV_go h
                  refine A_iast dX11_readAll_171 ia97 hg (bM_go h (fun M26 h => ?_))
                  refine A_goto dX11_readAll_172 ?_
                  exact A_le (lvLe_s (lvLe_s (lvLe_n (lvLe_n lvLe_0)))) (ih25 _ _ K25 h hK25)
                · have h := gF_go hc h
                  refine A_aload_n dX11_readAll_150 rfl ?_
                  refine A_getf dX11_readAll_151 fw_X11_201 ob11 rfl ?_
                  exact A_iret dX11_readAll_154 (pI_go h)
            refine A_icmp_ne dX11_readAll_128 (fun hc => ?_) (fun hc => ?_)
            · have h := gF_go hc h
              refine A_bipush (v := 100) dX11_readAll_136 (by decide) ?_
              exact A_le (lvLe_s (lvLe_s (lvLe_s (lvLe_s lvLe_0)))) (JJ21 _ h)
            · have h := gT_go hc h
              refine A_bipush (v := 52) dX11_readAll_131 (by decide) ?_
              refine A_goto dX11_readAll_133 ?_
              exact A_le (lvLe_s (lvLe_s (lvLe_s (lvLe_s lvLe_0)))) (JJ21 _ h)
        · have h := gF_go hc h
          refine A_aload_n dX11_readAll_54 rfl ?_
          refine A_getf dX11_readAll_55 fw_X11_201 ob11 rfl ?_
          exact A_iret dX11_readAll_58 (pI_go h)
def f_X11_readAll  (M : Mem) : Option Ret := f_X11_readAll_L2  FU (0 : Int32) M (fun w2 M3 => bM (up2 M3 11 44 (0 : Int32)) (fun M4 => f_X11_readAll_L25  FU w2 M4 (fun w27 M28 => some ((-1 : Int32), M28))))
set_option maxRecDepth 100000 in
theorem ok_X11_readAll {l : Launch} {g : Cx}  {M : Mem} {r : Int32} {Mr : Mem} (h : f_X11_readAll  M = some (r, Mr)) : CT l g yX11_readAll cX11_readAll 4 (some .int) 2 45 [.ref (g.1 11)] M (PI r Mr) := by
  refine CT_of (lv := [some (.ref (g.1 11)), none, none, none]) (by decide) rfl (Nat.le_of_ble_eq_true rfl) ?_
  unfold f_X11_readAll at h
  refine A_iconst (v := 0) dX11_readAll_0 (by decide) ?_
  refine A_istoren1 dX11_readAll_1 (by decide) rfl ?_
  refine f_X11_readAll_L2_ok  FU _ _ _ h (fun w2 M3 h => ?_)
  refine A_aload_n dX11_readAll_20 rfl ?_
  refine A_iconst (v := 0) dX11_readAll_21 (by decide) ?_
  refine A_putf dX11_readAll_22 pw_X11_201 ob11 pf11_44 (Nat.le_of_ble_eq_true rfl) (bM_go h (fun M4 h => ?_))
  refine f_X11_readAll_L25_ok  FU _ _ _ h (fun w27 M28 h => ?_)
  refine A_iconst (v := -1) dX11_readAll_175 (by decide) ?_
  exact A_iret dX11_readAll_176 (pI_go h)
-- BenchTimesModel.read
theorem dX11_read_0 : di cX11_read 0 (.aload_n 0) 1 1 := ⟨by decide +kernel, rfl⟩
theorem dX11_read_1 : di cX11_read 1 (.invokevirtual 214) 3 4 := ⟨by decide +kernel, rfl⟩
theorem dX11_read_4 : di cX11_read 4 (.istore_n 1) 1 5 := ⟨by decide +kernel, rfl⟩
theorem dX11_read_5 : di cX11_read 5 (.aload_n 0) 1 6 := ⟨by decide +kernel, rfl⟩
theorem dX11_read_6 : di cX11_read 6 (.iconst 0) 1 7 := ⟨by decide +kernel, rfl⟩
theorem dX11_read_7 : di cX11_read 7 (.putfield 198) 3 10 := ⟨by decide +kernel, rfl⟩
theorem dX11_read_10 : di cX11_read 10 (.iload_n 1) 1 11 := ⟨by decide +kernel, rfl⟩
theorem dX11_read_11 : dj cX11_read 11 (.ifCond .lt) 14 19 := ⟨8, by decide +kernel, rfl, rfl⟩
theorem dX11_read_14 : di cX11_read 14 (.bipush (-10)) 2 16 := ⟨by decide +kernel, rfl⟩
theorem dX11_read_16 : di cX11_read 16 (.iload_n 1) 1 17 := ⟨by decide +kernel, rfl⟩
theorem dX11_read_17 : di cX11_read 17 (.isub) 1 18 := ⟨by decide +kernel, rfl⟩
theorem dX11_read_18 : di cX11_read 18 (.ireturn) 1 19 := ⟨by decide +kernel, rfl⟩
theorem dX11_read_19 : di cX11_read 19 (.iconst 0) 1 20 := ⟨by decide +kernel, rfl⟩
theorem dX11_read_20 : di cX11_read 20 (.istore_n 2) 1 21 := ⟨by decide +kernel, rfl⟩
theorem dX11_read_21 : di cX11_read 21 (.iconst 0) 1 22 := ⟨by decide +kernel, rfl⟩
theorem dX11_read_22 : di cX11_read 22 (.istore_n 3) 1 23 := ⟨by decide +kernel, rfl⟩
theorem dX11_read_23 : di cX11_read 23 (.iload_n 3) 1 24 := ⟨by decide +kernel, rfl⟩
theorem dX11_read_24 : di cX11_read 24 (.iconst 5) 1 25 := ⟨by decide +kernel, rfl⟩
theorem dX11_read_25 : dj cX11_read 25 (.if_icmp .ge) 28 58 := ⟨33, by decide +kernel, rfl, rfl⟩
theorem dX11_read_28 : di cX11_read 28 (.aload_n 0) 1 29 := ⟨by decide +kernel, rfl⟩
theorem dX11_read_29 : di cX11_read 29 (.getfield 111) 3 32 := ⟨by decide +kernel, rfl⟩
theorem dX11_read_32 : di cX11_read 32 (.iload_n 3) 1 33 := ⟨by decide +kernel, rfl⟩
theorem dX11_read_33 : di cX11_read 33 (.iaload) 1 34 := ⟨by decide +kernel, rfl⟩
theorem dX11_read_34 : dj cX11_read 34 (.ifCond .lt) 37 52 := ⟨18, by decide +kernel, rfl, rfl⟩
theorem dX11_read_37 : di cX11_read 37 (.aload_n 0) 1 38 := ⟨by decide +kernel, rfl⟩
theorem dX11_read_38 : di cX11_read 38 (.getfield 60) 3 41 := ⟨by decide +kernel, rfl⟩
theorem dX11_read_41 : di cX11_read 41 (.iload_n 3) 1 42 := ⟨by decide +kernel, rfl⟩
theorem dX11_read_42 : di cX11_read 42 (.aload_n 0) 1 43 := ⟨by decide +kernel, rfl⟩
theorem dX11_read_43 : di cX11_read 43 (.getfield 111) 3 46 := ⟨by decide +kernel, rfl⟩
theorem dX11_read_46 : di cX11_read 46 (.iload_n 3) 1 47 := ⟨by decide +kernel, rfl⟩
theorem dX11_read_47 : di cX11_read 47 (.iaload) 1 48 := ⟨by decide +kernel, rfl⟩
theorem dX11_read_48 : di cX11_read 48 (.iastore) 1 49 := ⟨by decide +kernel, rfl⟩
theorem dX11_read_49 : di cX11_read 49 (.iinc 2 1) 3 52 := ⟨by decide +kernel, rfl⟩
theorem dX11_read_52 : di cX11_read 52 (.iinc 3 1) 3 55 := ⟨by decide +kernel, rfl⟩
theorem dX11_read_55 : dj cX11_read 55 .goto 58 23 := ⟨-32, by decide +kernel, rfl, rfl⟩
theorem dX11_read_58 : di cX11_read 58 (.iload_n 2) 1 59 := ⟨by decide +kernel, rfl⟩
theorem dX11_read_59 : di cX11_read 59 (.ireturn) 1 60 := ⟨by decide +kernel, rfl⟩
def f_X11_read_L23 (v1 : Int32) : Nat → Int32 → Int32 → Mem → (Int32 → Int32 → Mem → Option Ret) → Option Ret
  | 0, _, _, _, _ => none
  | k23 + 1, v2, v3, M, K23 => if (5 : Int32) ≤ v3 then (K23 v2 v3 M) else (gV v3 5 (jn (α := Int32 → Mem → Option Ret) (fun (y5 : Int32) (M6 : Mem) => f_X11_read_L23 v1 k23 y5 (v3 + (1 : Int32)) M6 K23) (fun J4 => if (M.1 97 v3.toNatClampNeg) < 0 then (J4 v2 M) else (gV v3 5 (gV v3 5 (bM (up2 M 80 v3.toNatClampNeg (M.1 97 v3.toNatClampNeg)) (fun M7 => J4 (v2 + (1 : Int32)) M7)))))))
set_option maxRecDepth 100000 in
theorem f_X11_read_L23_ok {l : Launch} {g : Cx} (v1 : Int32)  {r : Int32} {Mr : Mem} : ∀ (k : Nat) (v2 : Int32) (v3 : Int32) (M : Mem) (K23 : Int32 → Int32 → Mem → Option Ret), f_X11_read_L23 v1 k v2 v3 M K23 = some (r, Mr) → (∀ (v2 : Int32) (v3 : Int32) (M : Mem), K23 v2 v3 M = some (r, Mr) → AT l g RX11 cX11_read 4 (some .int) (rmM 3 68) (PI r Mr) 58 [some (.ref (g.1 11)), some (.int v1), some (.int v2), some (.int v3)] [] M) → AT l g RX11 cX11_read 4 (some .int) (rmM 3 68) (PI r Mr) 23 [some (.ref (g.1 11)), some (.int v1), some (.int v2), some (.int v3)] [] M
  | 0, v2, v3, M, K23, h, hK23 => by cases h
  | k23 + 1, v2, v3, M, K23, h, hK23 => by
    have ih23 := f_X11_read_L23_ok (l := l) (g := g) v1 (r := r) (Mr := Mr) k23
    rw [f_X11_read_L23] at h
    refine A_iload_n dX11_read_23 rfl ?_
    refine A_iconst (v := 5) dX11_read_24 (by decide) ?_
    refine A_icmp_ge dX11_read_25 (fun hc => ?_) (fun hc => ?_)
    · have h := gT_go hc h
      exact A_le (lvLe_s (lvLe_s (lvLe_s (lvLe_s lvLe_0)))) (hK23 _ _ _ h)
    · have h := gF_go hc h
      refine A_aload_n dX11_read_28 rfl ?_
      refine A_getf dX11_read_29 fw_X11_111 ob11 rfl ?_
      refine A_iload_n dX11_read_32 rfl ?_
      obtain ⟨hg, h⟩ := gV_go h
      refine A_iald dX11_read_33 ia97 hg ?_
      obtain ⟨J4, hJ4, h⟩ := jn_go h
      have JJ4 : ∀ (y5 : Int32) (M6 : Mem), J4 y5 M6 = some (r, Mr) → AT l g RX11 cX11_read 4 (some .int) (rmM 3 68) (PI r Mr) 52 [some (.ref (g.1 11)), some (.int v1), some (.int y5), some (.int v3)] [] M6 := by
        intro y5 M6 h
        rw [hJ4] at h
        refine A_iinc3 (d := 1) dX11_read_52 (by decide) (by decide) rfl ?_
        refine A_goto dX11_read_55 ?_
        exact A_le (lvLe_s (lvLe_s (lvLe_s (lvLe_s lvLe_0)))) (ih23 _ _ _ K23 h hK23)
      refine A_if_lt dX11_read_34 (fun hc => ?_) (fun hc => ?_)
      · have h := gT_go hc h
        exact A_le (lvLe_s (lvLe_s (lvLe_s (lvLe_s lvLe_0)))) (JJ4 _ _ h)
      · have h := gF_go hc h
        refine A_aload_n dX11_read_37 rfl ?_
        refine A_getf dX11_read_38 fw_X11_60 ob11 rfl ?_
        refine A_iload_n dX11_read_41 rfl ?_
        refine A_aload_n dX11_read_42 rfl ?_
        refine A_getf dX11_read_43 fw_X11_111 ob11 rfl ?_
        refine A_iload_n dX11_read_46 rfl ?_
        obtain ⟨hg, h⟩ := gV_go h
        refine A_iald dX11_read_47 ia97 hg ?_
        obtain ⟨hg, h⟩ := gV_go h
        refine A_iast dX11_read_48 ia80 hg (bM_go h (fun M7 h => ?_))
        refine A_iinc2 (d := 1) dX11_read_49 (by decide) (by decide) rfl ?_
        exact A_le (lvLe_s (lvLe_s (lvLe_s (lvLe_s lvLe_0)))) (JJ4 _ _ h)
def f_X11_read  (M : Mem) : Option Ret := bE (f_X11_readAll M) (fun r2 M1 => bM (up2 M1 11 24 (0 : Int32)) (fun M3 => if r2 < 0 then (f_X11_read_L23 r2 FU (0 : Int32) (0 : Int32) M3 (fun w8 w9 M10 => some (w8, M10))) else (some ((-10 : Int32) - r2, M3))))
set_option maxRecDepth 100000 in
theorem ok_X11_read {l : Launch} {g : Cx}  {M : Mem} {r : Int32} {Mr : Mem} (h : f_X11_read  M = some (r, Mr)) : CT l g yX11_read cX11_read 4 (some .int) 3 68 [.ref (g.1 11)] M (PI r Mr) := by
  refine CT_of (lv := [some (.ref (g.1 11)), none, none, none]) (by decide) rfl (Nat.le_of_ble_eq_true rfl) ?_
  unfold f_X11_read at h
  refine A_aload_n dX11_read_0 rfl ?_
  obtain ⟨r2, M1, h1, h⟩ := bE_go h
  refine A_cVi0 dX11_read_1 ml_X11_214 mb_X11_readAll mi_X11_readAll ob11 rfl rfl ⟨Nat.le_of_ble_eq_true rfl, Nat.le_of_ble_eq_true rfl⟩ (Nat.le_of_ble_eq_true rfl) (ok_X11_readAll h1) ?_
  refine A_istoren1 dX11_read_4 (by decide) rfl ?_
  refine A_aload_n dX11_read_5 rfl ?_
  refine A_iconst (v := 0) dX11_read_6 (by decide) ?_
  refine A_putf dX11_read_7 pw_X11_198 ob11 pf11_24 (Nat.le_of_ble_eq_true rfl) (bM_go h (fun M3 h => ?_))
  refine A_iload_n dX11_read_10 rfl ?_
  refine A_if_lt dX11_read_11 (fun hc => ?_) (fun hc => ?_)
  · have h := gT_go hc h
    refine A_iconst (v := 0) dX11_read_19 (by decide) ?_
    refine A_istoren2 dX11_read_20 (by decide) rfl ?_
    refine A_iconst (v := 0) dX11_read_21 (by decide) ?_
    refine A_istoren3 dX11_read_22 (by decide) rfl ?_
    refine f_X11_read_L23_ok _ FU _ _ _ _ h (fun w8 w9 M10 h => ?_)
    refine A_iload_n dX11_read_58 rfl ?_
    exact A_iret dX11_read_59 (pI_go h)
  · have h := gF_go hc h
    refine A_bipush (v := -10) dX11_read_14 (by decide) ?_
    refine A_iload_n dX11_read_16 rfl ?_
    refine A_isub dX11_read_17 ?_
    exact A_iret dX11_read_18 (pI_go h)
-- BenchTimesModel.rule
theorem dX11_rule_0 : di cX11_rule 0 (.iload_n 1) 1 1 := ⟨by decide +kernel, rfl⟩
theorem dX11_rule_1 : di cX11_rule 1 (.iconst 0) 1 2 := ⟨by decide +kernel, rfl⟩
theorem dX11_rule_2 : di cX11_rule 2 (.iconst 4) 1 3 := ⟨by decide +kernel, rfl⟩
theorem dX11_rule_3 : di cX11_rule 3 (.invokestatic 133) 3 6 := ⟨by decide +kernel, rfl⟩
theorem dX11_rule_6 : dj cX11_rule 6 (.ifCond .eq) 9 18 := ⟨12, by decide +kernel, rfl, rfl⟩
theorem dX11_rule_9 : di cX11_rule 9 (.aload_n 0) 1 10 := ⟨by decide +kernel, rfl⟩
theorem dX11_rule_10 : di cX11_rule 10 (.getfield 60) 3 13 := ⟨by decide +kernel, rfl⟩
theorem dX11_rule_13 : di cX11_rule 13 (.iload_n 1) 1 14 := ⟨by decide +kernel, rfl⟩
theorem dX11_rule_14 : di cX11_rule 14 (.iaload) 1 15 := ⟨by decide +kernel, rfl⟩
theorem dX11_rule_15 : dj cX11_rule 15 .goto 18 23 := ⟨8, by decide +kernel, rfl, rfl⟩
theorem dX11_rule_18 : di cX11_rule 18 (.aload_n 0) 1 19 := ⟨by decide +kernel, rfl⟩
theorem dX11_rule_19 : di cX11_rule 19 (.iconst 1) 1 20 := ⟨by decide +kernel, rfl⟩
theorem dX11_rule_20 : di cX11_rule 20 (.invokevirtual 137) 3 23 := ⟨by decide +kernel, rfl⟩
theorem dX11_rule_23 : di cX11_rule 23 (.ireturn) 1 24 := ⟨by decide +kernel, rfl⟩
def f_X11_rule (v1 : Int32) (M : Mem) : Option Ret := bE (f_X11_isIn v1 (0 : Int32) (4 : Int32) M) (fun r2 M1 => jn (α := Int32 → Mem → Option Ret) (fun (z4 : Int32) (M5 : Mem) => some (z4, M5)) (fun J3 => if r2 = 0 then (bE (f_X11_finding (1 : Int32) M1) (fun r7 M6 => J3 r7 M6)) else (gV v1 5 (J3 (M1.1 80 v1.toNatClampNeg) M1))))
set_option maxRecDepth 100000 in
theorem ok_X11_rule {l : Launch} {g : Cx} {v1 : Int32} {M : Mem} {r : Int32} {Mr : Mem} (h : f_X11_rule v1 M = some (r, Mr)) : CT l g yX11_rule cX11_rule 2 (some .int) 1 22 [.ref (g.1 11), .int v1] M (PI r Mr) := by
  refine CT_of (lv := [some (.ref (g.1 11)), some (.int v1)]) (by decide) rfl (Nat.le_of_ble_eq_true rfl) ?_
  unfold f_X11_rule at h
  refine A_iload_n dX11_rule_0 rfl ?_
  refine A_iconst (v := 0) dX11_rule_1 (by decide) ?_
  refine A_iconst (v := 4) dX11_rule_2 (by decide) ?_
  obtain ⟨r2, M1, h1, h⟩ := bE_go h
  refine A_cSi3 dX11_rule_3 ml_X11_133 mb_X11_isIn ms_X11_isIn ⟨Nat.le_of_ble_eq_true rfl, Nat.le_of_ble_eq_true rfl⟩ (Nat.le_of_ble_eq_true rfl) (ok_X11_isIn h1) ?_
  obtain ⟨J3, hJ3, h⟩ := jn_go h
  have JJ3 : ∀ (z4 : Int32) (M5 : Mem), J3 z4 M5 = some (r, Mr) → AT l g RX11 cX11_rule 2 (some .int) (rmM 1 22) (PI r Mr) 23 [some (.ref (g.1 11)), some (.int v1)] [.int z4] M5 := by
    intro z4 M5 h
    rw [hJ3] at h
    exact A_iret dX11_rule_23 (pI_go h)
  refine A_if_eq dX11_rule_6 (fun hc => ?_) (fun hc => ?_)
  · have h := gT_go hc h
    refine A_aload_n dX11_rule_18 rfl ?_
    refine A_iconst (v := 1) dX11_rule_19 (by decide) ?_
    obtain ⟨r7, M6, h1, h⟩ := bE_go h
    refine A_cVi1 dX11_rule_20 ml_X11_137 mb_X11_finding mi_X11_finding ob11 rfl rfl ⟨Nat.le_of_ble_eq_true rfl, Nat.le_of_ble_eq_true rfl⟩ (Nat.le_of_ble_eq_true rfl) (ok_X11_finding h1) ?_
    exact A_le (lvLe_s (lvLe_s lvLe_0)) (JJ3 _ _ h)
  · have h := gF_go hc h
    refine A_aload_n dX11_rule_9 rfl ?_
    refine A_getf dX11_rule_10 fw_X11_60 ob11 rfl ?_
    refine A_iload_n dX11_rule_13 rfl ?_
    obtain ⟨hg, h⟩ := gV_go h
    refine A_iald dX11_rule_14 ia80 hg ?_
    refine A_goto dX11_rule_15 ?_
    exact A_le (lvLe_s (lvLe_s lvLe_0)) (JJ3 _ _ h)
-- BenchTimesModel.work
theorem dX11_work_0 : di cX11_work 0 (.iload 4) 2 2 := ⟨by decide +kernel, rfl⟩
theorem dX11_work_2 : dj cX11_work 2 (.ifCond .ge) 5 11 := ⟨9, by decide +kernel, rfl, rfl⟩
theorem dX11_work_5 : di cX11_work 5 (.iload 4) 2 7 := ⟨by decide +kernel, rfl⟩
theorem dX11_work_7 : di cX11_work 7 (.ineg) 1 8 := ⟨by decide +kernel, rfl⟩
theorem dX11_work_8 : dj cX11_work 8 .goto 11 13 := ⟨5, by decide +kernel, rfl, rfl⟩
theorem dX11_work_11 : di cX11_work 11 (.iload 4) 2 13 := ⟨by decide +kernel, rfl⟩
theorem dX11_work_13 : di cX11_work 13 (.istore 5) 2 15 := ⟨by decide +kernel, rfl⟩
theorem dX11_work_15 : di cX11_work 15 (.iload_n 1) 1 16 := ⟨by decide +kernel, rfl⟩
theorem dX11_work_16 : di cX11_work 16 (.iconst 0) 1 17 := ⟨by decide +kernel, rfl⟩
theorem dX11_work_17 : di cX11_work 17 (.aload_n 0) 1 18 := ⟨by decide +kernel, rfl⟩
theorem dX11_work_18 : di cX11_work 18 (.getfield 185) 3 21 := ⟨by decide +kernel, rfl⟩
theorem dX11_work_21 : di cX11_work 21 (.invokestatic 133) 3 24 := ⟨by decide +kernel, rfl⟩
theorem dX11_work_24 : dj cX11_work 24 (.ifCond .eq) 27 74 := ⟨50, by decide +kernel, rfl, rfl⟩
theorem dX11_work_27 : di cX11_work 27 (.iload_n 2) 1 28 := ⟨by decide +kernel, rfl⟩
theorem dX11_work_28 : dj cX11_work 28 (.ifCond .lt) 31 74 := ⟨46, by decide +kernel, rfl, rfl⟩
theorem dX11_work_31 : di cX11_work 31 (.aload_n 0) 1 32 := ⟨by decide +kernel, rfl⟩
theorem dX11_work_32 : di cX11_work 32 (.iload_n 2) 1 33 := ⟨by decide +kernel, rfl⟩
theorem dX11_work_33 : di cX11_work 33 (.bipush 10) 2 35 := ⟨by decide +kernel, rfl⟩
theorem dX11_work_35 : di cX11_work 35 (.idiv) 1 36 := ⟨by decide +kernel, rfl⟩
theorem dX11_work_36 : di cX11_work 36 (.invokevirtual 176) 3 39 := ⟨by decide +kernel, rfl⟩
theorem dX11_work_39 : dj cX11_work 39 (.ifCond .eq) 42 74 := ⟨35, by decide +kernel, rfl, rfl⟩
theorem dX11_work_42 : di cX11_work 42 (.iload_n 2) 1 43 := ⟨by decide +kernel, rfl⟩
theorem dX11_work_43 : di cX11_work 43 (.bipush 10) 2 45 := ⟨by decide +kernel, rfl⟩
theorem dX11_work_45 : di cX11_work 45 (.irem) 1 46 := ⟨by decide +kernel, rfl⟩
theorem dX11_work_46 : di cX11_work 46 (.invokestatic 217) 3 49 := ⟨by decide +kernel, rfl⟩
theorem dX11_work_49 : dj cX11_work 49 (.ifCond .eq) 52 74 := ⟨25, by decide +kernel, rfl, rfl⟩
theorem dX11_work_52 : di cX11_work 52 (.iload_n 3) 1 53 := ⟨by decide +kernel, rfl⟩
theorem dX11_work_53 : di cX11_work 53 (.iconst 0) 1 54 := ⟨by decide +kernel, rfl⟩
theorem dX11_work_54 : di cX11_work 54 (.ldc 220) 2 56 := ⟨by decide +kernel, rfl⟩
theorem dX11_work_56 : di cX11_work 56 (.invokestatic 133) 3 59 := ⟨by decide +kernel, rfl⟩
theorem dX11_work_59 : dj cX11_work 59 (.ifCond .eq) 62 74 := ⟨15, by decide +kernel, rfl, rfl⟩
theorem dX11_work_62 : di cX11_work 62 (.iload 5) 2 64 := ⟨by decide +kernel, rfl⟩
theorem dX11_work_64 : di cX11_work 64 (.iconst 1) 1 65 := ⟨by decide +kernel, rfl⟩
theorem dX11_work_65 : di cX11_work 65 (.sipush 3000) 3 68 := ⟨by decide +kernel, rfl⟩
theorem dX11_work_68 : di cX11_work 68 (.invokestatic 133) 3 71 := ⟨by decide +kernel, rfl⟩
theorem dX11_work_71 : dj cX11_work 71 (.ifCond .ne) 74 80 := ⟨9, by decide +kernel, rfl, rfl⟩
theorem dX11_work_74 : di cX11_work 74 (.aload_n 0) 1 75 := ⟨by decide +kernel, rfl⟩
theorem dX11_work_75 : di cX11_work 75 (.iconst 1) 1 76 := ⟨by decide +kernel, rfl⟩
theorem dX11_work_76 : di cX11_work 76 (.invokevirtual 137) 3 79 := ⟨by decide +kernel, rfl⟩
theorem dX11_work_79 : di cX11_work 79 (.ireturn) 1 80 := ⟨by decide +kernel, rfl⟩
theorem dX11_work_80 : di cX11_work 80 (.aload_n 0) 1 81 := ⟨by decide +kernel, rfl⟩
theorem dX11_work_81 : di cX11_work 81 (.iload_n 2) 1 82 := ⟨by decide +kernel, rfl⟩
theorem dX11_work_82 : di cX11_work 82 (.bipush 10) 2 84 := ⟨by decide +kernel, rfl⟩
theorem dX11_work_84 : di cX11_work 84 (.idiv) 1 85 := ⟨by decide +kernel, rfl⟩
theorem dX11_work_85 : di cX11_work 85 (.iload_n 1) 1 86 := ⟨by decide +kernel, rfl⟩
theorem dX11_work_86 : di cX11_work 86 (.invokevirtual 195) 3 89 := ⟨by decide +kernel, rfl⟩
theorem dX11_work_89 : dj cX11_work 89 (.ifCond .ge) 92 98 := ⟨9, by decide +kernel, rfl, rfl⟩
theorem dX11_work_92 : di cX11_work 92 (.aload_n 0) 1 93 := ⟨by decide +kernel, rfl⟩
theorem dX11_work_93 : di cX11_work 93 (.iconst 2) 1 94 := ⟨by decide +kernel, rfl⟩
theorem dX11_work_94 : di cX11_work 94 (.invokevirtual 137) 3 97 := ⟨by decide +kernel, rfl⟩
theorem dX11_work_97 : di cX11_work 97 (.ireturn) 1 98 := ⟨by decide +kernel, rfl⟩
theorem dX11_work_98 : di cX11_work 98 (.aload_n 0) 1 99 := ⟨by decide +kernel, rfl⟩
theorem dX11_work_99 : di cX11_work 99 (.getfield 221) 3 102 := ⟨by decide +kernel, rfl⟩
theorem dX11_work_102 : di cX11_work 102 (.bipush 100) 2 104 := ⟨by decide +kernel, rfl⟩
theorem dX11_work_104 : dj cX11_work 104 (.if_icmp .ne) 107 113 := ⟨9, by decide +kernel, rfl, rfl⟩
theorem dX11_work_107 : di cX11_work 107 (.aload_n 0) 1 108 := ⟨by decide +kernel, rfl⟩
theorem dX11_work_108 : di cX11_work 108 (.iconst 4) 1 109 := ⟨by decide +kernel, rfl⟩
theorem dX11_work_109 : di cX11_work 109 (.invokevirtual 137) 3 112 := ⟨by decide +kernel, rfl⟩
theorem dX11_work_112 : di cX11_work 112 (.ireturn) 1 113 := ⟨by decide +kernel, rfl⟩
theorem dX11_work_113 : di cX11_work 113 (.aload_n 0) 1 114 := ⟨by decide +kernel, rfl⟩
theorem dX11_work_114 : di cX11_work 114 (.getfield 66) 3 117 := ⟨by decide +kernel, rfl⟩
theorem dX11_work_117 : di cX11_work 117 (.aload_n 0) 1 118 := ⟨by decide +kernel, rfl⟩
theorem dX11_work_118 : di cX11_work 118 (.getfield 221) 3 121 := ⟨by decide +kernel, rfl⟩
theorem dX11_work_121 : di cX11_work 121 (.iload_n 1) 1 122 := ⟨by decide +kernel, rfl⟩
theorem dX11_work_122 : di cX11_work 122 (.iastore) 1 123 := ⟨by decide +kernel, rfl⟩
theorem dX11_work_123 : di cX11_work 123 (.aload_n 0) 1 124 := ⟨by decide +kernel, rfl⟩
theorem dX11_work_124 : di cX11_work 124 (.getfield 72) 3 127 := ⟨by decide +kernel, rfl⟩
theorem dX11_work_127 : di cX11_work 127 (.aload_n 0) 1 128 := ⟨by decide +kernel, rfl⟩
theorem dX11_work_128 : di cX11_work 128 (.getfield 221) 3 131 := ⟨by decide +kernel, rfl⟩
theorem dX11_work_131 : di cX11_work 131 (.iload_n 2) 1 132 := ⟨by decide +kernel, rfl⟩
theorem dX11_work_132 : di cX11_work 132 (.bipush 10) 2 134 := ⟨by decide +kernel, rfl⟩
theorem dX11_work_134 : di cX11_work 134 (.idiv) 1 135 := ⟨by decide +kernel, rfl⟩
theorem dX11_work_135 : di cX11_work 135 (.iastore) 1 136 := ⟨by decide +kernel, rfl⟩
theorem dX11_work_136 : di cX11_work 136 (.aload_n 0) 1 137 := ⟨by decide +kernel, rfl⟩
theorem dX11_work_137 : di cX11_work 137 (.getfield 69) 3 140 := ⟨by decide +kernel, rfl⟩
theorem dX11_work_140 : di cX11_work 140 (.aload_n 0) 1 141 := ⟨by decide +kernel, rfl⟩
theorem dX11_work_141 : di cX11_work 141 (.getfield 221) 3 144 := ⟨by decide +kernel, rfl⟩
theorem dX11_work_144 : di cX11_work 144 (.iload_n 2) 1 145 := ⟨by decide +kernel, rfl⟩
theorem dX11_work_145 : di cX11_work 145 (.bipush 10) 2 147 := ⟨by decide +kernel, rfl⟩
theorem dX11_work_147 : di cX11_work 147 (.irem) 1 148 := ⟨by decide +kernel, rfl⟩
theorem dX11_work_148 : di cX11_work 148 (.iastore) 1 149 := ⟨by decide +kernel, rfl⟩
theorem dX11_work_149 : di cX11_work 149 (.aload_n 0) 1 150 := ⟨by decide +kernel, rfl⟩
theorem dX11_work_150 : di cX11_work 150 (.getfield 75) 3 153 := ⟨by decide +kernel, rfl⟩
theorem dX11_work_153 : di cX11_work 153 (.aload_n 0) 1 154 := ⟨by decide +kernel, rfl⟩
theorem dX11_work_154 : di cX11_work 154 (.getfield 221) 3 157 := ⟨by decide +kernel, rfl⟩
theorem dX11_work_157 : di cX11_work 157 (.iload_n 3) 1 158 := ⟨by decide +kernel, rfl⟩
theorem dX11_work_158 : di cX11_work 158 (.sipush 1000) 3 161 := ⟨by decide +kernel, rfl⟩
theorem dX11_work_161 : di cX11_work 161 (.idiv) 1 162 := ⟨by decide +kernel, rfl⟩
theorem dX11_work_162 : di cX11_work 162 (.iastore) 1 163 := ⟨by decide +kernel, rfl⟩
theorem dX11_work_163 : di cX11_work 163 (.aload_n 0) 1 164 := ⟨by decide +kernel, rfl⟩
theorem dX11_work_164 : di cX11_work 164 (.getfield 78) 3 167 := ⟨by decide +kernel, rfl⟩
theorem dX11_work_167 : di cX11_work 167 (.aload_n 0) 1 168 := ⟨by decide +kernel, rfl⟩
theorem dX11_work_168 : di cX11_work 168 (.getfield 221) 3 171 := ⟨by decide +kernel, rfl⟩
theorem dX11_work_171 : di cX11_work 171 (.iload_n 3) 1 172 := ⟨by decide +kernel, rfl⟩
theorem dX11_work_172 : di cX11_work 172 (.sipush 1000) 3 175 := ⟨by decide +kernel, rfl⟩
theorem dX11_work_175 : di cX11_work 175 (.irem) 1 176 := ⟨by decide +kernel, rfl⟩
theorem dX11_work_176 : di cX11_work 176 (.iastore) 1 177 := ⟨by decide +kernel, rfl⟩
theorem dX11_work_177 : di cX11_work 177 (.aload_n 0) 1 178 := ⟨by decide +kernel, rfl⟩
theorem dX11_work_178 : di cX11_work 178 (.getfield 81) 3 181 := ⟨by decide +kernel, rfl⟩
theorem dX11_work_181 : di cX11_work 181 (.aload_n 0) 1 182 := ⟨by decide +kernel, rfl⟩
theorem dX11_work_182 : di cX11_work 182 (.getfield 221) 3 185 := ⟨by decide +kernel, rfl⟩
theorem dX11_work_185 : di cX11_work 185 (.iload 5) 2 187 := ⟨by decide +kernel, rfl⟩
theorem dX11_work_187 : di cX11_work 187 (.iastore) 1 188 := ⟨by decide +kernel, rfl⟩
theorem dX11_work_188 : di cX11_work 188 (.aload_n 0) 1 189 := ⟨by decide +kernel, rfl⟩
theorem dX11_work_189 : di cX11_work 189 (.getfield 84) 3 192 := ⟨by decide +kernel, rfl⟩
theorem dX11_work_192 : di cX11_work 192 (.aload_n 0) 1 193 := ⟨by decide +kernel, rfl⟩
theorem dX11_work_193 : di cX11_work 193 (.getfield 221) 3 196 := ⟨by decide +kernel, rfl⟩
theorem dX11_work_196 : di cX11_work 196 (.iload 4) 2 198 := ⟨by decide +kernel, rfl⟩
theorem dX11_work_198 : dj cX11_work 198 (.ifCond .ge) 201 205 := ⟨7, by decide +kernel, rfl, rfl⟩
theorem dX11_work_201 : di cX11_work 201 (.iconst 1) 1 202 := ⟨by decide +kernel, rfl⟩
theorem dX11_work_202 : dj cX11_work 202 .goto 205 206 := ⟨4, by decide +kernel, rfl, rfl⟩
theorem dX11_work_205 : di cX11_work 205 (.iconst 0) 1 206 := ⟨by decide +kernel, rfl⟩
theorem dX11_work_206 : di cX11_work 206 (.bastore) 1 207 := ⟨by decide +kernel, rfl⟩
theorem dX11_work_207 : di cX11_work 207 (.aload_n 0) 1 208 := ⟨by decide +kernel, rfl⟩
theorem dX11_work_208 : di cX11_work 208 (.dup) 1 209 := ⟨by decide +kernel, rfl⟩
theorem dX11_work_209 : di cX11_work 209 (.getfield 221) 3 212 := ⟨by decide +kernel, rfl⟩
theorem dX11_work_212 : di cX11_work 212 (.iconst 1) 1 213 := ⟨by decide +kernel, rfl⟩
theorem dX11_work_213 : di cX11_work 213 (.iadd) 1 214 := ⟨by decide +kernel, rfl⟩
theorem dX11_work_214 : di cX11_work 214 (.putfield 221) 3 217 := ⟨by decide +kernel, rfl⟩
theorem dX11_work_217 : di cX11_work 217 (.aload_n 0) 1 218 := ⟨by decide +kernel, rfl⟩
theorem dX11_work_218 : di cX11_work 218 (.getfield 221) 3 221 := ⟨by decide +kernel, rfl⟩
theorem dX11_work_221 : di cX11_work 221 (.iconst 1) 1 222 := ⟨by decide +kernel, rfl⟩
theorem dX11_work_222 : di cX11_work 222 (.isub) 1 223 := ⟨by decide +kernel, rfl⟩
theorem dX11_work_223 : di cX11_work 223 (.ireturn) 1 224 := ⟨by decide +kernel, rfl⟩
def f_X11_work (v1 : Int32) (v2 : Int32) (v3 : Int32) (v4 : Int32) (M : Mem) : Option Ret := jn (α := Int32 → Option Ret) (fun (z2 : Int32) => bE (f_X11_isIn v1 (0 : Int32) (M.1 11 21) M) (fun r4 M3 => if r4 = 0 then (bE (f_X11_finding (1 : Int32) M3) (fun r6 M5 => some (r6, M5))) else (if v2 < 0 then (bE (f_X11_finding (1 : Int32) M3) (fun r8 M7 => some (r8, M7))) else (bE (f_X11_isJob (v2 / (10 : Int32)) M3) (fun r10 M9 => if r10 = 0 then (bE (f_X11_finding (1 : Int32) M9) (fun r12 M11 => some (r12, M11))) else (bE (f_X11_isWorker (v2 - v2 / (10 : Int32) * (10 : Int32)) M9) (fun r14 M13 => if r14 = 0 then (bE (f_X11_finding (1 : Int32) M13) (fun r16 M15 => some (r16, M15))) else (bE (f_X11_isIn v3 (0 : Int32) (999999 : Int32) M13) (fun r18 M17 => if r18 = 0 then (bE (f_X11_finding (1 : Int32) M17) (fun r20 M19 => some (r20, M19))) else (bE (f_X11_isIn z2 (1 : Int32) (3000 : Int32) M17) (fun r22 M21 => if r22 = 0 then (bE (f_X11_finding (1 : Int32) M21) (fun r40 M39 => some (r40, M39))) else (bE (f_X11_forceOf (v2 / (10 : Int32)) v1 M21) (fun r24 M23 => if 0 ≤ r24 then (if (M23.1 11 25) = (100 : Int32) then (bE (f_X11_finding (4 : Int32) M23) (fun r36 M35 => some (r36, M35))) else (gV (M23.1 11 25) 100 (bM (up2 M23 82 (M23.1 11 25).toNatClampNeg v1) (fun M25 => gV (M25.1 11 25) 100 (bM (up2 M25 84 (M25.1 11 25).toNatClampNeg (v2 / (10 : Int32))) (fun M26 => gV (M26.1 11 25) 100 (bM (up2 M26 83 (M26.1 11 25).toNatClampNeg (v2 - v2 / (10 : Int32) * (10 : Int32))) (fun M27 => gV (M27.1 11 25) 100 (bM (up2 M27 85 (M27.1 11 25).toNatClampNeg (v3 / (1000 : Int32))) (fun M28 => gV (M28.1 11 25) 100 (bM (up2 M28 86 (M28.1 11 25).toNatClampNeg (v3 - v3 / (1000 : Int32) * (1000 : Int32))) (fun M29 => gV (M29.1 11 25) 100 (bM (up2 M29 87 (M29.1 11 25).toNatClampNeg z2) (fun M30 => jn (α := Int32 → Option Ret) (fun (z32 : Int32) => gV (M30.1 11 25) 100 (bM (up2 M30 88 (M30.1 11 25).toNatClampNeg (z32 &&& 1)) (fun M33 => bM (up2 M33 11 25 ((M33.1 11 25) + (1 : Int32))) (fun M34 => some ((M34.1 11 25) - (1 : Int32), M34))))) (fun J31 => if 0 ≤ v4 then (J31 (0 : Int32)) else (J31 (1 : Int32))))))))))))))))) else (bE (f_X11_finding (2 : Int32) M23) (fun r38 M37 => some (r38, M37)))))))))))))))) (fun J1 => if 0 ≤ v4 then (J1 v4) else (J1 (-v4)))
set_option maxRecDepth 100000 in
theorem ok_X11_work {l : Launch} {g : Cx} {v1 : Int32} {v2 : Int32} {v3 : Int32} {v4 : Int32} {M : Mem} {r : Int32} {Mr : Mem} (h : f_X11_work v1 v2 v3 v4 M = some (r, Mr)) : CT l g yX11_work cX11_work 6 (some .int) 2 42 [.ref (g.1 11), .int v1, .int v2, .int v3, .int v4] M (PI r Mr) := by
  refine CT_of (lv := [some (.ref (g.1 11)), some (.int v1), some (.int v2), some (.int v3), some (.int v4), none]) (by decide) rfl (Nat.le_of_ble_eq_true rfl) ?_
  unfold f_X11_work at h
  refine A_iload dX11_work_0 rfl ?_
  obtain ⟨J1, hJ1, h⟩ := jn_go h
  have JJ1 : ∀ (z2 : Int32), J1 z2 = some (r, Mr) → AT l g RX11 cX11_work 6 (some .int) (rmM 2 42) (PI r Mr) 13 [some (.ref (g.1 11)), some (.int v1), some (.int v2), some (.int v3), some (.int v4), none] [.int z2] M := by
    intro z2 h
    rw [hJ1] at h
    refine A_istore5 dX11_work_13 (by decide) rfl ?_
    refine A_iload_n dX11_work_15 rfl ?_
    refine A_iconst (v := 0) dX11_work_16 (by decide) ?_
    refine A_aload_n dX11_work_17 rfl ?_
    refine A_getf dX11_work_18 fw_X11_185 ob11 rfl ?_
    obtain ⟨r4, M3, h1, h⟩ := bE_go h
    refine A_cSi3 dX11_work_21 ml_X11_133 mb_X11_isIn ms_X11_isIn ⟨Nat.le_of_ble_eq_true rfl, Nat.le_of_ble_eq_true rfl⟩ (Nat.le_of_ble_eq_true rfl) (ok_X11_isIn h1) ?_
    refine A_if_eq dX11_work_24 (fun hc => ?_) (fun hc => ?_)
    · have h := gT_go hc h
      refine A_aload_n dX11_work_74 rfl ?_
      refine A_iconst (v := 1) dX11_work_75 (by decide) ?_
      obtain ⟨r6, M5, h1, h⟩ := bE_go h
      refine A_cVi1 dX11_work_76 ml_X11_137 mb_X11_finding mi_X11_finding ob11 rfl rfl ⟨Nat.le_of_ble_eq_true rfl, Nat.le_of_ble_eq_true rfl⟩ (Nat.le_of_ble_eq_true rfl) (ok_X11_finding h1) ?_
      exact A_iret dX11_work_79 (pI_go h)
    · have h := gF_go hc h
      refine A_iload_n dX11_work_27 rfl ?_
      refine A_if_lt dX11_work_28 (fun hc => ?_) (fun hc => ?_)
      · have h := gT_go hc h
        refine A_aload_n dX11_work_74 rfl ?_
        refine A_iconst (v := 1) dX11_work_75 (by decide) ?_
        obtain ⟨r8, M7, h1, h⟩ := bE_go h
        refine A_cVi1 dX11_work_76 ml_X11_137 mb_X11_finding mi_X11_finding ob11 rfl rfl ⟨Nat.le_of_ble_eq_true rfl, Nat.le_of_ble_eq_true rfl⟩ (Nat.le_of_ble_eq_true rfl) (ok_X11_finding h1) ?_
        exact A_iret dX11_work_79 (pI_go h)
      · have h := gF_go hc h
        refine A_aload_n dX11_work_31 rfl ?_
        refine A_iload_n dX11_work_32 rfl ?_
        refine A_bipush (v := 10) dX11_work_33 (by decide) ?_
        refine A_idiv dX11_work_35 (by decide) ?_
        obtain ⟨r10, M9, h1, h⟩ := bE_go h
        refine A_cVi1 dX11_work_36 ml_X11_176 mb_X11_isJob mi_X11_isJob ob11 rfl rfl ⟨Nat.le_of_ble_eq_true rfl, Nat.le_of_ble_eq_true rfl⟩ (Nat.le_of_ble_eq_true rfl) (ok_X11_isJob h1) ?_
        refine A_if_eq dX11_work_39 (fun hc => ?_) (fun hc => ?_)
        · have h := gT_go hc h
          refine A_aload_n dX11_work_74 rfl ?_
          refine A_iconst (v := 1) dX11_work_75 (by decide) ?_
          obtain ⟨r12, M11, h1, h⟩ := bE_go h
          refine A_cVi1 dX11_work_76 ml_X11_137 mb_X11_finding mi_X11_finding ob11 rfl rfl ⟨Nat.le_of_ble_eq_true rfl, Nat.le_of_ble_eq_true rfl⟩ (Nat.le_of_ble_eq_true rfl) (ok_X11_finding h1) ?_
          exact A_iret dX11_work_79 (pI_go h)
        · have h := gF_go hc h
          refine A_iload_n dX11_work_42 rfl ?_
          refine A_bipush (v := 10) dX11_work_43 (by decide) ?_
          refine A_irem dX11_work_45 (by decide) ?_
          obtain ⟨r14, M13, h1, h⟩ := bE_go h
          refine A_cSi1 dX11_work_46 ml_X11_217 mb_X11_isWorker ms_X11_isWorker ⟨Nat.le_of_ble_eq_true rfl, Nat.le_of_ble_eq_true rfl⟩ (Nat.le_of_ble_eq_true rfl) (ok_X11_isWorker h1) ?_
          refine A_if_eq dX11_work_49 (fun hc => ?_) (fun hc => ?_)
          · have h := gT_go hc h
            refine A_aload_n dX11_work_74 rfl ?_
            refine A_iconst (v := 1) dX11_work_75 (by decide) ?_
            obtain ⟨r16, M15, h1, h⟩ := bE_go h
            refine A_cVi1 dX11_work_76 ml_X11_137 mb_X11_finding mi_X11_finding ob11 rfl rfl ⟨Nat.le_of_ble_eq_true rfl, Nat.le_of_ble_eq_true rfl⟩ (Nat.le_of_ble_eq_true rfl) (ok_X11_finding h1) ?_
            exact A_iret dX11_work_79 (pI_go h)
          · have h := gF_go hc h
            refine A_iload_n dX11_work_52 rfl ?_
            refine A_iconst (v := 0) dX11_work_53 (by decide) ?_
            refine A_ldc dX11_work_54 kc_X11_220 ?_
            obtain ⟨r18, M17, h1, h⟩ := bE_go h
            refine A_cSi3 dX11_work_56 ml_X11_133 mb_X11_isIn ms_X11_isIn ⟨Nat.le_of_ble_eq_true rfl, Nat.le_of_ble_eq_true rfl⟩ (Nat.le_of_ble_eq_true rfl) (ok_X11_isIn h1) ?_
            refine A_if_eq dX11_work_59 (fun hc => ?_) (fun hc => ?_)
            · have h := gT_go hc h
              refine A_aload_n dX11_work_74 rfl ?_
              refine A_iconst (v := 1) dX11_work_75 (by decide) ?_
              obtain ⟨r20, M19, h1, h⟩ := bE_go h
              refine A_cVi1 dX11_work_76 ml_X11_137 mb_X11_finding mi_X11_finding ob11 rfl rfl ⟨Nat.le_of_ble_eq_true rfl, Nat.le_of_ble_eq_true rfl⟩ (Nat.le_of_ble_eq_true rfl) (ok_X11_finding h1) ?_
              exact A_iret dX11_work_79 (pI_go h)
            · have h := gF_go hc h
              refine A_iload dX11_work_62 rfl ?_
              refine A_iconst (v := 1) dX11_work_64 (by decide) ?_
              refine A_sipush (v := 3000) dX11_work_65 (by decide) ?_
              obtain ⟨r22, M21, h1, h⟩ := bE_go h
              refine A_cSi3 dX11_work_68 ml_X11_133 mb_X11_isIn ms_X11_isIn ⟨Nat.le_of_ble_eq_true rfl, Nat.le_of_ble_eq_true rfl⟩ (Nat.le_of_ble_eq_true rfl) (ok_X11_isIn h1) ?_
              refine A_if_ne dX11_work_71 (fun hc => ?_) (fun hc => ?_)
              · have h := gF_go hc h
                refine A_aload_n dX11_work_80 rfl ?_
                refine A_iload_n dX11_work_81 rfl ?_
                refine A_bipush (v := 10) dX11_work_82 (by decide) ?_
                refine A_idiv dX11_work_84 (by decide) ?_
                refine A_iload_n dX11_work_85 rfl ?_
                obtain ⟨r24, M23, h1, h⟩ := bE_go h
                refine A_cVi2 dX11_work_86 ml_X11_195 mb_X11_forceOf mi_X11_forceOf ob11 rfl rfl ⟨Nat.le_of_ble_eq_true rfl, Nat.le_of_ble_eq_true rfl⟩ (Nat.le_of_ble_eq_true rfl) (ok_X11_forceOf h1) ?_
                refine A_if_ge dX11_work_89 (fun hc => ?_) (fun hc => ?_)
                · have h := gT_go hc h
                  refine A_aload_n dX11_work_98 rfl ?_
                  refine A_getf dX11_work_99 fw_X11_221 ob11 rfl ?_
                  refine A_bipush (v := 100) dX11_work_102 (by decide) ?_
                  refine A_icmp_ne dX11_work_104 (fun hc => ?_) (fun hc => ?_)
                  · have h := gF_go hc h
                    refine A_aload_n dX11_work_113 rfl ?_
                    refine A_getf dX11_work_114 fw_X11_66 ob11 rfl ?_
                    refine A_aload_n dX11_work_117 rfl ?_
                    refine A_getf dX11_work_118 fw_X11_221 ob11 rfl ?_
                    refine A_iload_n dX11_work_121 rfl ?_
                    obtain ⟨hg, h⟩ := gV_go h
                    refine A_iast dX11_work_122 ia82 hg (bM_go h (fun M25 h => ?_))
                    refine A_aload_n dX11_work_123 rfl ?_
                    refine A_getf dX11_work_124 fw_X11_72 ob11 rfl ?_
                    refine A_aload_n dX11_work_127 rfl ?_
                    refine A_getf dX11_work_128 fw_X11_221 ob11 rfl ?_
                    refine A_iload_n dX11_work_131 rfl ?_
                    refine A_bipush (v := 10) dX11_work_132 (by decide) ?_
                    refine A_idiv dX11_work_134 (by decide) ?_
                    obtain ⟨hg, h⟩ := gV_go h
                    refine A_iast dX11_work_135 ia84 hg (bM_go h (fun M26 h => ?_))
                    refine A_aload_n dX11_work_136 rfl ?_
                    refine A_getf dX11_work_137 fw_X11_69 ob11 rfl ?_
                    refine A_aload_n dX11_work_140 rfl ?_
                    refine A_getf dX11_work_141 fw_X11_221 ob11 rfl ?_
                    refine A_iload_n dX11_work_144 rfl ?_
                    refine A_bipush (v := 10) dX11_work_145 (by decide) ?_
                    refine A_irem dX11_work_147 (by decide) ?_
                    obtain ⟨hg, h⟩ := gV_go h
                    refine A_iast dX11_work_148 ia83 hg (bM_go h (fun M27 h => ?_))
                    refine A_aload_n dX11_work_149 rfl ?_
                    refine A_getf dX11_work_150 fw_X11_75 ob11 rfl ?_
                    refine A_aload_n dX11_work_153 rfl ?_
                    refine A_getf dX11_work_154 fw_X11_221 ob11 rfl ?_
                    refine A_iload_n dX11_work_157 rfl ?_
                    refine A_sipush (v := 1000) dX11_work_158 (by decide) ?_
                    refine A_idiv dX11_work_161 (by decide) ?_
                    obtain ⟨hg, h⟩ := gV_go h
                    refine A_iast dX11_work_162 ia85 hg (bM_go h (fun M28 h => ?_))
                    refine A_aload_n dX11_work_163 rfl ?_
                    refine A_getf dX11_work_164 fw_X11_78 ob11 rfl ?_
                    refine A_aload_n dX11_work_167 rfl ?_
                    refine A_getf dX11_work_168 fw_X11_221 ob11 rfl ?_
                    refine A_iload_n dX11_work_171 rfl ?_
                    refine A_sipush (v := 1000) dX11_work_172 (by decide) ?_
                    refine A_irem dX11_work_175 (by decide) ?_
                    obtain ⟨hg, h⟩ := gV_go h
                    refine A_iast dX11_work_176 ia86 hg (bM_go h (fun M29 h => ?_))
                    refine A_aload_n dX11_work_177 rfl ?_
                    refine A_getf dX11_work_178 fw_X11_81 ob11 rfl ?_
                    refine A_aload_n dX11_work_181 rfl ?_
                    refine A_getf dX11_work_182 fw_X11_221 ob11 rfl ?_
                    refine A_iload dX11_work_185 rfl ?_
                    obtain ⟨hg, h⟩ := gV_go h
                    refine A_iast dX11_work_187 ia87 hg (bM_go h (fun M30 h => ?_))
                    refine A_aload_n dX11_work_188 rfl ?_
                    refine A_getf dX11_work_189 fw_X11_84 ob11 rfl ?_
                    refine A_aload_n dX11_work_192 rfl ?_
                    refine A_getf dX11_work_193 fw_X11_221 ob11 rfl ?_
                    refine A_iload dX11_work_196 rfl ?_
                    obtain ⟨J31, hJ31, h⟩ := jn_go h
                    have JJ31 : ∀ (z32 : Int32), J31 z32 = some (r, Mr) → AT l g RX11 cX11_work 6 (some .int) (rmM 2 42) (PI r Mr) 206 [some (.ref (g.1 11)), some (.int v1), some (.int v2), some (.int v3), some (.int v4), some (.int z2)] [.int z32, .int (M30.1 11 25), .ref (g.1 88)] M30 := by
                      intro z32 h
                      rw [hJ31] at h
                      obtain ⟨hg, h⟩ := gV_go h
                      refine A_zast dX11_work_206 za88 hg (bM_go h (fun M33 h => ?_))
                      refine A_aload_n dX11_work_207 rfl ?_
                      refine A_dup dX11_work_208 rfl ?_
                      refine A_getf dX11_work_209 fw_X11_221 ob11 rfl ?_
                      refine A_iconst (v := 1) dX11_work_212 (by decide) ?_
                      refine A_iadd dX11_work_213 ?_
                      refine A_putf dX11_work_214 pw_X11_221 ob11 pf11_25 (Nat.le_of_ble_eq_true rfl) (bM_go h (fun M34 h => ?_))
                      refine A_aload_n dX11_work_217 rfl ?_
                      refine A_getf dX11_work_218 fw_X11_221 ob11 rfl ?_
                      refine A_iconst (v := 1) dX11_work_221 (by decide) ?_
                      refine A_isub dX11_work_222 ?_
                      exact A_iret dX11_work_223 (pI_go h)
                    refine A_if_ge dX11_work_198 (fun hc => ?_) (fun hc => ?_)
                    · have h := gT_go hc h
                      refine A_iconst (v := 0) dX11_work_205 (by decide) ?_
                      exact A_le (lvLe_s (lvLe_s (lvLe_s (lvLe_s (lvLe_s (lvLe_s lvLe_0)))))) (JJ31 _ h)
                    · have h := gF_go hc h
                      refine A_iconst (v := 1) dX11_work_201 (by decide) ?_
                      refine A_goto dX11_work_202 ?_
                      exact A_le (lvLe_s (lvLe_s (lvLe_s (lvLe_s (lvLe_s (lvLe_s lvLe_0)))))) (JJ31 _ h)
                  · have h := gT_go hc h
                    refine A_aload_n dX11_work_107 rfl ?_
                    refine A_iconst (v := 4) dX11_work_108 (by decide) ?_
                    obtain ⟨r36, M35, h1, h⟩ := bE_go h
                    refine A_cVi1 dX11_work_109 ml_X11_137 mb_X11_finding mi_X11_finding ob11 rfl rfl ⟨Nat.le_of_ble_eq_true rfl, Nat.le_of_ble_eq_true rfl⟩ (Nat.le_of_ble_eq_true rfl) (ok_X11_finding h1) ?_
                    exact A_iret dX11_work_112 (pI_go h)
                · have h := gF_go hc h
                  refine A_aload_n dX11_work_92 rfl ?_
                  refine A_iconst (v := 2) dX11_work_93 (by decide) ?_
                  obtain ⟨r38, M37, h1, h⟩ := bE_go h
                  refine A_cVi1 dX11_work_94 ml_X11_137 mb_X11_finding mi_X11_finding ob11 rfl rfl ⟨Nat.le_of_ble_eq_true rfl, Nat.le_of_ble_eq_true rfl⟩ (Nat.le_of_ble_eq_true rfl) (ok_X11_finding h1) ?_
                  exact A_iret dX11_work_97 (pI_go h)
              · have h := gT_go hc h
                refine A_aload_n dX11_work_74 rfl ?_
                refine A_iconst (v := 1) dX11_work_75 (by decide) ?_
                obtain ⟨r40, M39, h1, h⟩ := bE_go h
                refine A_cVi1 dX11_work_76 ml_X11_137 mb_X11_finding mi_X11_finding ob11 rfl rfl ⟨Nat.le_of_ble_eq_true rfl, Nat.le_of_ble_eq_true rfl⟩ (Nat.le_of_ble_eq_true rfl) (ok_X11_finding h1) ?_
                exact A_iret dX11_work_79 (pI_go h)
  refine A_if_ge dX11_work_2 (fun hc => ?_) (fun hc => ?_)
  · have h := gT_go hc h
    refine A_iload dX11_work_11 rfl ?_
    exact A_le (lvLe_s (lvLe_s (lvLe_s (lvLe_s (lvLe_s (lvLe_n lvLe_0)))))) (JJ1 _ h)
  · have h := gF_go hc h
    refine A_iload dX11_work_5 rfl ?_
    refine A_ineg dX11_work_7 ?_
    refine A_goto dX11_work_8 ?_
    exact A_le (lvLe_s (lvLe_s (lvLe_s (lvLe_s (lvLe_s (lvLe_n lvLe_0)))))) (JJ1 _ h)
-- BenchTimesModel.wait
theorem dX11_wait_0 : di cX11_wait 0 (.iload_n 1) 1 1 := ⟨by decide +kernel, rfl⟩
theorem dX11_wait_1 : di cX11_wait 1 (.iconst 0) 1 2 := ⟨by decide +kernel, rfl⟩
theorem dX11_wait_2 : di cX11_wait 2 (.aload_n 0) 1 3 := ⟨by decide +kernel, rfl⟩
theorem dX11_wait_3 : di cX11_wait 3 (.getfield 185) 3 6 := ⟨by decide +kernel, rfl⟩
theorem dX11_wait_6 : di cX11_wait 6 (.invokestatic 133) 3 9 := ⟨by decide +kernel, rfl⟩
theorem dX11_wait_9 : dj cX11_wait 9 (.ifCond .eq) 12 40 := ⟨31, by decide +kernel, rfl, rfl⟩
theorem dX11_wait_12 : di cX11_wait 12 (.iload_n 2) 1 13 := ⟨by decide +kernel, rfl⟩
theorem dX11_wait_13 : di cX11_wait 13 (.invokestatic 217) 3 16 := ⟨by decide +kernel, rfl⟩
theorem dX11_wait_16 : dj cX11_wait 16 (.ifCond .eq) 19 40 := ⟨24, by decide +kernel, rfl, rfl⟩
theorem dX11_wait_19 : di cX11_wait 19 (.iload_n 3) 1 20 := ⟨by decide +kernel, rfl⟩
theorem dX11_wait_20 : di cX11_wait 20 (.iconst 0) 1 21 := ⟨by decide +kernel, rfl⟩
theorem dX11_wait_21 : di cX11_wait 21 (.iconst 3) 1 22 := ⟨by decide +kernel, rfl⟩
theorem dX11_wait_22 : di cX11_wait 22 (.invokestatic 133) 3 25 := ⟨by decide +kernel, rfl⟩
theorem dX11_wait_25 : dj cX11_wait 25 (.ifCond .eq) 28 40 := ⟨15, by decide +kernel, rfl, rfl⟩
theorem dX11_wait_28 : di cX11_wait 28 (.iload 4) 2 30 := ⟨by decide +kernel, rfl⟩
theorem dX11_wait_30 : di cX11_wait 30 (.iconst 1) 1 31 := ⟨by decide +kernel, rfl⟩
theorem dX11_wait_31 : di cX11_wait 31 (.sipush 3000) 3 34 := ⟨by decide +kernel, rfl⟩
theorem dX11_wait_34 : di cX11_wait 34 (.invokestatic 133) 3 37 := ⟨by decide +kernel, rfl⟩
theorem dX11_wait_37 : dj cX11_wait 37 (.ifCond .ne) 40 46 := ⟨9, by decide +kernel, rfl, rfl⟩
theorem dX11_wait_40 : di cX11_wait 40 (.aload_n 0) 1 41 := ⟨by decide +kernel, rfl⟩
theorem dX11_wait_41 : di cX11_wait 41 (.iconst 1) 1 42 := ⟨by decide +kernel, rfl⟩
theorem dX11_wait_42 : di cX11_wait 42 (.invokevirtual 137) 3 45 := ⟨by decide +kernel, rfl⟩
theorem dX11_wait_45 : di cX11_wait 45 (.ireturn) 1 46 := ⟨by decide +kernel, rfl⟩
theorem dX11_wait_46 : di cX11_wait 46 (.aload_n 0) 1 47 := ⟨by decide +kernel, rfl⟩
theorem dX11_wait_47 : di cX11_wait 47 (.getfield 224) 3 50 := ⟨by decide +kernel, rfl⟩
theorem dX11_wait_50 : di cX11_wait 50 (.bipush 60) 2 52 := ⟨by decide +kernel, rfl⟩
theorem dX11_wait_52 : dj cX11_wait 52 (.if_icmp .ne) 55 61 := ⟨9, by decide +kernel, rfl, rfl⟩
theorem dX11_wait_55 : di cX11_wait 55 (.aload_n 0) 1 56 := ⟨by decide +kernel, rfl⟩
theorem dX11_wait_56 : di cX11_wait 56 (.iconst 4) 1 57 := ⟨by decide +kernel, rfl⟩
theorem dX11_wait_57 : di cX11_wait 57 (.invokevirtual 137) 3 60 := ⟨by decide +kernel, rfl⟩
theorem dX11_wait_60 : di cX11_wait 60 (.ireturn) 1 61 := ⟨by decide +kernel, rfl⟩
theorem dX11_wait_61 : di cX11_wait 61 (.aload_n 0) 1 62 := ⟨by decide +kernel, rfl⟩
theorem dX11_wait_62 : di cX11_wait 62 (.getfield 87) 3 65 := ⟨by decide +kernel, rfl⟩
theorem dX11_wait_65 : di cX11_wait 65 (.aload_n 0) 1 66 := ⟨by decide +kernel, rfl⟩
theorem dX11_wait_66 : di cX11_wait 66 (.getfield 224) 3 69 := ⟨by decide +kernel, rfl⟩
theorem dX11_wait_69 : di cX11_wait 69 (.iload_n 1) 1 70 := ⟨by decide +kernel, rfl⟩
theorem dX11_wait_70 : di cX11_wait 70 (.iastore) 1 71 := ⟨by decide +kernel, rfl⟩
theorem dX11_wait_71 : di cX11_wait 71 (.aload_n 0) 1 72 := ⟨by decide +kernel, rfl⟩
theorem dX11_wait_72 : di cX11_wait 72 (.getfield 90) 3 75 := ⟨by decide +kernel, rfl⟩
theorem dX11_wait_75 : di cX11_wait 75 (.aload_n 0) 1 76 := ⟨by decide +kernel, rfl⟩
theorem dX11_wait_76 : di cX11_wait 76 (.getfield 224) 3 79 := ⟨by decide +kernel, rfl⟩
theorem dX11_wait_79 : di cX11_wait 79 (.iload_n 2) 1 80 := ⟨by decide +kernel, rfl⟩
theorem dX11_wait_80 : di cX11_wait 80 (.iastore) 1 81 := ⟨by decide +kernel, rfl⟩
theorem dX11_wait_81 : di cX11_wait 81 (.aload_n 0) 1 82 := ⟨by decide +kernel, rfl⟩
theorem dX11_wait_82 : di cX11_wait 82 (.getfield 93) 3 85 := ⟨by decide +kernel, rfl⟩
theorem dX11_wait_85 : di cX11_wait 85 (.aload_n 0) 1 86 := ⟨by decide +kernel, rfl⟩
theorem dX11_wait_86 : di cX11_wait 86 (.getfield 224) 3 89 := ⟨by decide +kernel, rfl⟩
theorem dX11_wait_89 : di cX11_wait 89 (.iload_n 3) 1 90 := ⟨by decide +kernel, rfl⟩
theorem dX11_wait_90 : di cX11_wait 90 (.iastore) 1 91 := ⟨by decide +kernel, rfl⟩
theorem dX11_wait_91 : di cX11_wait 91 (.aload_n 0) 1 92 := ⟨by decide +kernel, rfl⟩
theorem dX11_wait_92 : di cX11_wait 92 (.getfield 96) 3 95 := ⟨by decide +kernel, rfl⟩
theorem dX11_wait_95 : di cX11_wait 95 (.aload_n 0) 1 96 := ⟨by decide +kernel, rfl⟩
theorem dX11_wait_96 : di cX11_wait 96 (.getfield 224) 3 99 := ⟨by decide +kernel, rfl⟩
theorem dX11_wait_99 : di cX11_wait 99 (.iload 4) 2 101 := ⟨by decide +kernel, rfl⟩
theorem dX11_wait_101 : di cX11_wait 101 (.iastore) 1 102 := ⟨by decide +kernel, rfl⟩
theorem dX11_wait_102 : di cX11_wait 102 (.aload_n 0) 1 103 := ⟨by decide +kernel, rfl⟩
theorem dX11_wait_103 : di cX11_wait 103 (.dup) 1 104 := ⟨by decide +kernel, rfl⟩
theorem dX11_wait_104 : di cX11_wait 104 (.getfield 224) 3 107 := ⟨by decide +kernel, rfl⟩
theorem dX11_wait_107 : di cX11_wait 107 (.iconst 1) 1 108 := ⟨by decide +kernel, rfl⟩
theorem dX11_wait_108 : di cX11_wait 108 (.iadd) 1 109 := ⟨by decide +kernel, rfl⟩
theorem dX11_wait_109 : di cX11_wait 109 (.putfield 224) 3 112 := ⟨by decide +kernel, rfl⟩
theorem dX11_wait_112 : di cX11_wait 112 (.aload_n 0) 1 113 := ⟨by decide +kernel, rfl⟩
theorem dX11_wait_113 : di cX11_wait 113 (.getfield 224) 3 116 := ⟨by decide +kernel, rfl⟩
theorem dX11_wait_116 : di cX11_wait 116 (.ireturn) 1 117 := ⟨by decide +kernel, rfl⟩
def f_X11_wait (v1 : Int32) (v2 : Int32) (v3 : Int32) (v4 : Int32) (M : Mem) : Option Ret := bE (f_X11_isIn v1 (0 : Int32) (M.1 11 21) M) (fun r2 M1 => if r2 = 0 then (bE (f_X11_finding (1 : Int32) M1) (fun r4 M3 => some (r4, M3))) else (bE (f_X11_isWorker v2 M1) (fun r6 M5 => if r6 = 0 then (bE (f_X11_finding (1 : Int32) M5) (fun r8 M7 => some (r8, M7))) else (bE (f_X11_isIn v3 (0 : Int32) (3 : Int32) M5) (fun r10 M9 => if r10 = 0 then (bE (f_X11_finding (1 : Int32) M9) (fun r12 M11 => some (r12, M11))) else (bE (f_X11_isIn v4 (1 : Int32) (3000 : Int32) M9) (fun r14 M13 => if r14 = 0 then (bE (f_X11_finding (1 : Int32) M13) (fun r23 M22 => some (r23, M22))) else (if (M13.1 11 33) = (60 : Int32) then (bE (f_X11_finding (4 : Int32) M13) (fun r21 M20 => some (r21, M20))) else (gV (M13.1 11 33) 60 (bM (up2 M13 89 (M13.1 11 33).toNatClampNeg v1) (fun M15 => gV (M15.1 11 33) 60 (bM (up2 M15 90 (M15.1 11 33).toNatClampNeg v2) (fun M16 => gV (M16.1 11 33) 60 (bM (up2 M16 91 (M16.1 11 33).toNatClampNeg v3) (fun M17 => gV (M17.1 11 33) 60 (bM (up2 M17 92 (M17.1 11 33).toNatClampNeg v4) (fun M18 => bM (up2 M18 11 33 ((M18.1 11 33) + (1 : Int32))) (fun M19 => some (M19.1 11 33, M19)))))))))))))))))))
set_option maxRecDepth 100000 in
theorem ok_X11_wait {l : Launch} {g : Cx} {v1 : Int32} {v2 : Int32} {v3 : Int32} {v4 : Int32} {M : Mem} {r : Int32} {Mr : Mem} (h : f_X11_wait v1 v2 v3 v4 M = some (r, Mr)) : CT l g yX11_wait cX11_wait 5 (some .int) 2 42 [.ref (g.1 11), .int v1, .int v2, .int v3, .int v4] M (PI r Mr) := by
  refine CT_of (lv := [some (.ref (g.1 11)), some (.int v1), some (.int v2), some (.int v3), some (.int v4)]) (by decide) rfl (Nat.le_of_ble_eq_true rfl) ?_
  unfold f_X11_wait at h
  refine A_iload_n dX11_wait_0 rfl ?_
  refine A_iconst (v := 0) dX11_wait_1 (by decide) ?_
  refine A_aload_n dX11_wait_2 rfl ?_
  refine A_getf dX11_wait_3 fw_X11_185 ob11 rfl ?_
  obtain ⟨r2, M1, h1, h⟩ := bE_go h
  refine A_cSi3 dX11_wait_6 ml_X11_133 mb_X11_isIn ms_X11_isIn ⟨Nat.le_of_ble_eq_true rfl, Nat.le_of_ble_eq_true rfl⟩ (Nat.le_of_ble_eq_true rfl) (ok_X11_isIn h1) ?_
  refine A_if_eq dX11_wait_9 (fun hc => ?_) (fun hc => ?_)
  · have h := gT_go hc h
    refine A_aload_n dX11_wait_40 rfl ?_
    refine A_iconst (v := 1) dX11_wait_41 (by decide) ?_
    obtain ⟨r4, M3, h1, h⟩ := bE_go h
    refine A_cVi1 dX11_wait_42 ml_X11_137 mb_X11_finding mi_X11_finding ob11 rfl rfl ⟨Nat.le_of_ble_eq_true rfl, Nat.le_of_ble_eq_true rfl⟩ (Nat.le_of_ble_eq_true rfl) (ok_X11_finding h1) ?_
    exact A_iret dX11_wait_45 (pI_go h)
  · have h := gF_go hc h
    refine A_iload_n dX11_wait_12 rfl ?_
    obtain ⟨r6, M5, h1, h⟩ := bE_go h
    refine A_cSi1 dX11_wait_13 ml_X11_217 mb_X11_isWorker ms_X11_isWorker ⟨Nat.le_of_ble_eq_true rfl, Nat.le_of_ble_eq_true rfl⟩ (Nat.le_of_ble_eq_true rfl) (ok_X11_isWorker h1) ?_
    refine A_if_eq dX11_wait_16 (fun hc => ?_) (fun hc => ?_)
    · have h := gT_go hc h
      refine A_aload_n dX11_wait_40 rfl ?_
      refine A_iconst (v := 1) dX11_wait_41 (by decide) ?_
      obtain ⟨r8, M7, h1, h⟩ := bE_go h
      refine A_cVi1 dX11_wait_42 ml_X11_137 mb_X11_finding mi_X11_finding ob11 rfl rfl ⟨Nat.le_of_ble_eq_true rfl, Nat.le_of_ble_eq_true rfl⟩ (Nat.le_of_ble_eq_true rfl) (ok_X11_finding h1) ?_
      exact A_iret dX11_wait_45 (pI_go h)
    · have h := gF_go hc h
      refine A_iload_n dX11_wait_19 rfl ?_
      refine A_iconst (v := 0) dX11_wait_20 (by decide) ?_
      refine A_iconst (v := 3) dX11_wait_21 (by decide) ?_
      obtain ⟨r10, M9, h1, h⟩ := bE_go h
      refine A_cSi3 dX11_wait_22 ml_X11_133 mb_X11_isIn ms_X11_isIn ⟨Nat.le_of_ble_eq_true rfl, Nat.le_of_ble_eq_true rfl⟩ (Nat.le_of_ble_eq_true rfl) (ok_X11_isIn h1) ?_
      refine A_if_eq dX11_wait_25 (fun hc => ?_) (fun hc => ?_)
      · have h := gT_go hc h
        refine A_aload_n dX11_wait_40 rfl ?_
        refine A_iconst (v := 1) dX11_wait_41 (by decide) ?_
        obtain ⟨r12, M11, h1, h⟩ := bE_go h
        refine A_cVi1 dX11_wait_42 ml_X11_137 mb_X11_finding mi_X11_finding ob11 rfl rfl ⟨Nat.le_of_ble_eq_true rfl, Nat.le_of_ble_eq_true rfl⟩ (Nat.le_of_ble_eq_true rfl) (ok_X11_finding h1) ?_
        exact A_iret dX11_wait_45 (pI_go h)
      · have h := gF_go hc h
        refine A_iload dX11_wait_28 rfl ?_
        refine A_iconst (v := 1) dX11_wait_30 (by decide) ?_
        refine A_sipush (v := 3000) dX11_wait_31 (by decide) ?_
        obtain ⟨r14, M13, h1, h⟩ := bE_go h
        refine A_cSi3 dX11_wait_34 ml_X11_133 mb_X11_isIn ms_X11_isIn ⟨Nat.le_of_ble_eq_true rfl, Nat.le_of_ble_eq_true rfl⟩ (Nat.le_of_ble_eq_true rfl) (ok_X11_isIn h1) ?_
        refine A_if_ne dX11_wait_37 (fun hc => ?_) (fun hc => ?_)
        · have h := gF_go hc h
          refine A_aload_n dX11_wait_46 rfl ?_
          refine A_getf dX11_wait_47 fw_X11_224 ob11 rfl ?_
          refine A_bipush (v := 60) dX11_wait_50 (by decide) ?_
          refine A_icmp_ne dX11_wait_52 (fun hc => ?_) (fun hc => ?_)
          · have h := gF_go hc h
            refine A_aload_n dX11_wait_61 rfl ?_
            refine A_getf dX11_wait_62 fw_X11_87 ob11 rfl ?_
            refine A_aload_n dX11_wait_65 rfl ?_
            refine A_getf dX11_wait_66 fw_X11_224 ob11 rfl ?_
            refine A_iload_n dX11_wait_69 rfl ?_
            obtain ⟨hg, h⟩ := gV_go h
            refine A_iast dX11_wait_70 ia89 hg (bM_go h (fun M15 h => ?_))
            refine A_aload_n dX11_wait_71 rfl ?_
            refine A_getf dX11_wait_72 fw_X11_90 ob11 rfl ?_
            refine A_aload_n dX11_wait_75 rfl ?_
            refine A_getf dX11_wait_76 fw_X11_224 ob11 rfl ?_
            refine A_iload_n dX11_wait_79 rfl ?_
            obtain ⟨hg, h⟩ := gV_go h
            refine A_iast dX11_wait_80 ia90 hg (bM_go h (fun M16 h => ?_))
            refine A_aload_n dX11_wait_81 rfl ?_
            refine A_getf dX11_wait_82 fw_X11_93 ob11 rfl ?_
            refine A_aload_n dX11_wait_85 rfl ?_
            refine A_getf dX11_wait_86 fw_X11_224 ob11 rfl ?_
            refine A_iload_n dX11_wait_89 rfl ?_
            obtain ⟨hg, h⟩ := gV_go h
            refine A_iast dX11_wait_90 ia91 hg (bM_go h (fun M17 h => ?_))
            refine A_aload_n dX11_wait_91 rfl ?_
            refine A_getf dX11_wait_92 fw_X11_96 ob11 rfl ?_
            refine A_aload_n dX11_wait_95 rfl ?_
            refine A_getf dX11_wait_96 fw_X11_224 ob11 rfl ?_
            refine A_iload dX11_wait_99 rfl ?_
            obtain ⟨hg, h⟩ := gV_go h
            refine A_iast dX11_wait_101 ia92 hg (bM_go h (fun M18 h => ?_))
            refine A_aload_n dX11_wait_102 rfl ?_
            refine A_dup dX11_wait_103 rfl ?_
            refine A_getf dX11_wait_104 fw_X11_224 ob11 rfl ?_
            refine A_iconst (v := 1) dX11_wait_107 (by decide) ?_
            refine A_iadd dX11_wait_108 ?_
            refine A_putf dX11_wait_109 pw_X11_224 ob11 pf11_33 (Nat.le_of_ble_eq_true rfl) (bM_go h (fun M19 h => ?_))
            refine A_aload_n dX11_wait_112 rfl ?_
            refine A_getf dX11_wait_113 fw_X11_224 ob11 rfl ?_
            exact A_iret dX11_wait_116 (pI_go h)
          · have h := gT_go hc h
            refine A_aload_n dX11_wait_55 rfl ?_
            refine A_iconst (v := 4) dX11_wait_56 (by decide) ?_
            obtain ⟨r21, M20, h1, h⟩ := bE_go h
            refine A_cVi1 dX11_wait_57 ml_X11_137 mb_X11_finding mi_X11_finding ob11 rfl rfl ⟨Nat.le_of_ble_eq_true rfl, Nat.le_of_ble_eq_true rfl⟩ (Nat.le_of_ble_eq_true rfl) (ok_X11_finding h1) ?_
            exact A_iret dX11_wait_60 (pI_go h)
        · have h := gT_go hc h
          refine A_aload_n dX11_wait_40 rfl ?_
          refine A_iconst (v := 1) dX11_wait_41 (by decide) ?_
          obtain ⟨r23, M22, h1, h⟩ := bE_go h
          refine A_cVi1 dX11_wait_42 ml_X11_137 mb_X11_finding mi_X11_finding ob11 rfl rfl ⟨Nat.le_of_ble_eq_true rfl, Nat.le_of_ble_eq_true rfl⟩ (Nat.le_of_ble_eq_true rfl) (ok_X11_finding h1) ?_
          exact A_iret dX11_wait_45 (pI_go h)
-- BenchTimesModel.learner
theorem dX11_learner_0 : di cX11_learner 0 (.iload_n 1) 1 1 := ⟨by decide +kernel, rfl⟩
theorem dX11_learner_1 : di cX11_learner 1 (.invokestatic 217) 3 4 := ⟨by decide +kernel, rfl⟩
theorem dX11_learner_4 : dj cX11_learner 4 (.ifCond .eq) 7 26 := ⟨22, by decide +kernel, rfl, rfl⟩
theorem dX11_learner_7 : di cX11_learner 7 (.aload_n 0) 1 8 := ⟨by decide +kernel, rfl⟩
theorem dX11_learner_8 : di cX11_learner 8 (.iload_n 2) 1 9 := ⟨by decide +kernel, rfl⟩
theorem dX11_learner_9 : di cX11_learner 9 (.invokevirtual 176) 3 12 := ⟨by decide +kernel, rfl⟩
theorem dX11_learner_12 : dj cX11_learner 12 (.ifCond .eq) 15 26 := ⟨14, by decide +kernel, rfl, rfl⟩
theorem dX11_learner_15 : di cX11_learner 15 (.iload_n 3) 1 16 := ⟨by decide +kernel, rfl⟩
theorem dX11_learner_16 : di cX11_learner 16 (.iconst (-1)) 1 17 := ⟨by decide +kernel, rfl⟩
theorem dX11_learner_17 : di cX11_learner 17 (.sipush 500) 3 20 := ⟨by decide +kernel, rfl⟩
theorem dX11_learner_20 : di cX11_learner 20 (.invokestatic 133) 3 23 := ⟨by decide +kernel, rfl⟩
theorem dX11_learner_23 : dj cX11_learner 23 (.ifCond .ne) 26 32 := ⟨9, by decide +kernel, rfl, rfl⟩
theorem dX11_learner_26 : di cX11_learner 26 (.aload_n 0) 1 27 := ⟨by decide +kernel, rfl⟩
theorem dX11_learner_27 : di cX11_learner 27 (.iconst 1) 1 28 := ⟨by decide +kernel, rfl⟩
theorem dX11_learner_28 : di cX11_learner 28 (.invokevirtual 137) 3 31 := ⟨by decide +kernel, rfl⟩
theorem dX11_learner_31 : di cX11_learner 31 (.ireturn) 1 32 := ⟨by decide +kernel, rfl⟩
theorem dX11_learner_32 : di cX11_learner 32 (.aload_n 0) 1 33 := ⟨by decide +kernel, rfl⟩
theorem dX11_learner_33 : di cX11_learner 33 (.getfield 99) 3 36 := ⟨by decide +kernel, rfl⟩
theorem dX11_learner_36 : di cX11_learner 36 (.bipush 8) 2 38 := ⟨by decide +kernel, rfl⟩
theorem dX11_learner_38 : di cX11_learner 38 (.iload_n 1) 1 39 := ⟨by decide +kernel, rfl⟩
theorem dX11_learner_39 : di cX11_learner 39 (.imul) 1 40 := ⟨by decide +kernel, rfl⟩
theorem dX11_learner_40 : di cX11_learner 40 (.iload_n 2) 1 41 := ⟨by decide +kernel, rfl⟩
theorem dX11_learner_41 : di cX11_learner 41 (.iadd) 1 42 := ⟨by decide +kernel, rfl⟩
theorem dX11_learner_42 : di cX11_learner 42 (.iaload) 1 43 := ⟨by decide +kernel, rfl⟩
theorem dX11_learner_43 : di cX11_learner 43 (.istore 4) 2 45 := ⟨by decide +kernel, rfl⟩
theorem dX11_learner_45 : di cX11_learner 45 (.aload_n 0) 1 46 := ⟨by decide +kernel, rfl⟩
theorem dX11_learner_46 : di cX11_learner 46 (.getfield 99) 3 49 := ⟨by decide +kernel, rfl⟩
theorem dX11_learner_49 : di cX11_learner 49 (.bipush 8) 2 51 := ⟨by decide +kernel, rfl⟩
theorem dX11_learner_51 : di cX11_learner 51 (.iload_n 1) 1 52 := ⟨by decide +kernel, rfl⟩
theorem dX11_learner_52 : di cX11_learner 52 (.imul) 1 53 := ⟨by decide +kernel, rfl⟩
theorem dX11_learner_53 : di cX11_learner 53 (.iload_n 2) 1 54 := ⟨by decide +kernel, rfl⟩
theorem dX11_learner_54 : di cX11_learner 54 (.iadd) 1 55 := ⟨by decide +kernel, rfl⟩
theorem dX11_learner_55 : di cX11_learner 55 (.iload_n 3) 1 56 := ⟨by decide +kernel, rfl⟩
theorem dX11_learner_56 : di cX11_learner 56 (.iastore) 1 57 := ⟨by decide +kernel, rfl⟩
theorem dX11_learner_57 : di cX11_learner 57 (.iload 4) 2 59 := ⟨by decide +kernel, rfl⟩
theorem dX11_learner_59 : di cX11_learner 59 (.ireturn) 1 60 := ⟨by decide +kernel, rfl⟩
def f_X11_learner (v1 : Int32) (v2 : Int32) (v3 : Int32) (M : Mem) : Option Ret := bE (f_X11_isWorker v1 M) (fun r2 M1 => if r2 = 0 then (bE (f_X11_finding (1 : Int32) M1) (fun r4 M3 => some (r4, M3))) else (bE (f_X11_isJob v2 M1) (fun r6 M5 => if r6 = 0 then (bE (f_X11_finding (1 : Int32) M5) (fun r8 M7 => some (r8, M7))) else (bE (f_X11_isIn v3 (-1 : Int32) (500 : Int32) M5) (fun r10 M9 => if r10 = 0 then (bE (f_X11_finding (1 : Int32) M9) (fun r14 M13 => some (r14, M13))) else (gV (((8 : Int32) * v1) + v2) 64 (bI (M9.1 93 (((8 : Int32) * v1) + v2).toNatClampNeg) (fun x11 => gV (((8 : Int32) * v1) + v2) 64 (bM (up2 M9 93 (((8 : Int32) * v1) + v2).toNatClampNeg v3) (fun M12 => some (x11, M12)))))))))))
set_option maxRecDepth 100000 in
theorem ok_X11_learner {l : Launch} {g : Cx} {v1 : Int32} {v2 : Int32} {v3 : Int32} {M : Mem} {r : Int32} {Mr : Mem} (h : f_X11_learner v1 v2 v3 M = some (r, Mr)) : CT l g yX11_learner cX11_learner 5 (some .int) 2 42 [.ref (g.1 11), .int v1, .int v2, .int v3] M (PI r Mr) := by
  refine CT_of (lv := [some (.ref (g.1 11)), some (.int v1), some (.int v2), some (.int v3), none]) (by decide) rfl (Nat.le_of_ble_eq_true rfl) ?_
  unfold f_X11_learner at h
  refine A_iload_n dX11_learner_0 rfl ?_
  obtain ⟨r2, M1, h1, h⟩ := bE_go h
  refine A_cSi1 dX11_learner_1 ml_X11_217 mb_X11_isWorker ms_X11_isWorker ⟨Nat.le_of_ble_eq_true rfl, Nat.le_of_ble_eq_true rfl⟩ (Nat.le_of_ble_eq_true rfl) (ok_X11_isWorker h1) ?_
  refine A_if_eq dX11_learner_4 (fun hc => ?_) (fun hc => ?_)
  · have h := gT_go hc h
    refine A_aload_n dX11_learner_26 rfl ?_
    refine A_iconst (v := 1) dX11_learner_27 (by decide) ?_
    obtain ⟨r4, M3, h1, h⟩ := bE_go h
    refine A_cVi1 dX11_learner_28 ml_X11_137 mb_X11_finding mi_X11_finding ob11 rfl rfl ⟨Nat.le_of_ble_eq_true rfl, Nat.le_of_ble_eq_true rfl⟩ (Nat.le_of_ble_eq_true rfl) (ok_X11_finding h1) ?_
    exact A_iret dX11_learner_31 (pI_go h)
  · have h := gF_go hc h
    refine A_aload_n dX11_learner_7 rfl ?_
    refine A_iload_n dX11_learner_8 rfl ?_
    obtain ⟨r6, M5, h1, h⟩ := bE_go h
    refine A_cVi1 dX11_learner_9 ml_X11_176 mb_X11_isJob mi_X11_isJob ob11 rfl rfl ⟨Nat.le_of_ble_eq_true rfl, Nat.le_of_ble_eq_true rfl⟩ (Nat.le_of_ble_eq_true rfl) (ok_X11_isJob h1) ?_
    refine A_if_eq dX11_learner_12 (fun hc => ?_) (fun hc => ?_)
    · have h := gT_go hc h
      refine A_aload_n dX11_learner_26 rfl ?_
      refine A_iconst (v := 1) dX11_learner_27 (by decide) ?_
      obtain ⟨r8, M7, h1, h⟩ := bE_go h
      refine A_cVi1 dX11_learner_28 ml_X11_137 mb_X11_finding mi_X11_finding ob11 rfl rfl ⟨Nat.le_of_ble_eq_true rfl, Nat.le_of_ble_eq_true rfl⟩ (Nat.le_of_ble_eq_true rfl) (ok_X11_finding h1) ?_
      exact A_iret dX11_learner_31 (pI_go h)
    · have h := gF_go hc h
      refine A_iload_n dX11_learner_15 rfl ?_
      refine A_iconst (v := -1) dX11_learner_16 (by decide) ?_
      refine A_sipush (v := 500) dX11_learner_17 (by decide) ?_
      obtain ⟨r10, M9, h1, h⟩ := bE_go h
      refine A_cSi3 dX11_learner_20 ml_X11_133 mb_X11_isIn ms_X11_isIn ⟨Nat.le_of_ble_eq_true rfl, Nat.le_of_ble_eq_true rfl⟩ (Nat.le_of_ble_eq_true rfl) (ok_X11_isIn h1) ?_
      refine A_if_ne dX11_learner_23 (fun hc => ?_) (fun hc => ?_)
      · have h := gF_go hc h
        refine A_aload_n dX11_learner_32 rfl ?_
        refine A_getf dX11_learner_33 fw_X11_99 ob11 rfl ?_
        refine A_bipush (v := 8) dX11_learner_36 (by decide) ?_
        refine A_iload_n dX11_learner_38 rfl ?_
        refine A_imul dX11_learner_39 ?_
        refine A_iload_n dX11_learner_40 rfl ?_
        refine A_iadd dX11_learner_41 ?_
        obtain ⟨hg, h⟩ := gV_go h
        refine A_iald dX11_learner_42 ia93 hg ?_
        refine A_istore4 dX11_learner_43 (by decide) rfl (bI_go h (G := fun z => AT l g RX11 cX11_learner 5 (some .int) (rmM 2 42) (PI r Mr) 45 [some (.ref (g.1 11)), some (.int v1), some (.int v2), some (.int v3), some (.int z)] [] M9) (fun x11 h => ?_))
        refine A_aload_n dX11_learner_45 rfl ?_
        refine A_getf dX11_learner_46 fw_X11_99 ob11 rfl ?_
        refine A_bipush (v := 8) dX11_learner_49 (by decide) ?_
        refine A_iload_n dX11_learner_51 rfl ?_
        refine A_imul dX11_learner_52 ?_
        refine A_iload_n dX11_learner_53 rfl ?_
        refine A_iadd dX11_learner_54 ?_
        refine A_iload_n dX11_learner_55 rfl ?_
        obtain ⟨hg, h⟩ := gV_go h
        refine A_iast dX11_learner_56 ia93 hg (bM_go h (fun M12 h => ?_))
        refine A_iload dX11_learner_57 rfl ?_
        exact A_iret dX11_learner_59 (pI_go h)
      · have h := gT_go hc h
        refine A_aload_n dX11_learner_26 rfl ?_
        refine A_iconst (v := 1) dX11_learner_27 (by decide) ?_
        obtain ⟨r14, M13, h1, h⟩ := bE_go h
        refine A_cVi1 dX11_learner_28 ml_X11_137 mb_X11_finding mi_X11_finding ob11 rfl rfl ⟨Nat.le_of_ble_eq_true rfl, Nat.le_of_ble_eq_true rfl⟩ (Nat.le_of_ble_eq_true rfl) (ok_X11_finding h1) ?_
        exact A_iret dX11_learner_31 (pI_go h)
-- BenchTimesModel.earnedBy
theorem dX11_earnedBy_0 : di cX11_earnedBy 0 (.aload_n 0) 1 1 := ⟨by decide +kernel, rfl⟩
theorem dX11_earnedBy_1 : di cX11_earnedBy 1 (.getfield 75) 3 4 := ⟨by decide +kernel, rfl⟩
theorem dX11_earnedBy_4 : di cX11_earnedBy 4 (.iload_n 1) 1 5 := ⟨by decide +kernel, rfl⟩
theorem dX11_earnedBy_5 : di cX11_earnedBy 5 (.iaload) 1 6 := ⟨by decide +kernel, rfl⟩
theorem dX11_earnedBy_6 : di cX11_earnedBy 6 (.aload_n 0) 1 7 := ⟨by decide +kernel, rfl⟩
theorem dX11_earnedBy_7 : di cX11_earnedBy 7 (.getfield 60) 3 10 := ⟨by decide +kernel, rfl⟩
theorem dX11_earnedBy_10 : di cX11_earnedBy 10 (.iconst 3) 1 11 := ⟨by decide +kernel, rfl⟩
theorem dX11_earnedBy_11 : di cX11_earnedBy 11 (.iaload) 1 12 := ⟨by decide +kernel, rfl⟩
theorem dX11_earnedBy_12 : di cX11_earnedBy 12 (.imul) 1 13 := ⟨by decide +kernel, rfl⟩
theorem dX11_earnedBy_13 : di cX11_earnedBy 13 (.bipush 100) 2 15 := ⟨by decide +kernel, rfl⟩
theorem dX11_earnedBy_15 : di cX11_earnedBy 15 (.idiv) 1 16 := ⟨by decide +kernel, rfl⟩
theorem dX11_earnedBy_16 : di cX11_earnedBy 16 (.istore_n 2) 1 17 := ⟨by decide +kernel, rfl⟩
theorem dX11_earnedBy_17 : di cX11_earnedBy 17 (.aload_n 0) 1 18 := ⟨by decide +kernel, rfl⟩
theorem dX11_earnedBy_18 : di cX11_earnedBy 18 (.getfield 75) 3 21 := ⟨by decide +kernel, rfl⟩
theorem dX11_earnedBy_21 : di cX11_earnedBy 21 (.iload_n 1) 1 22 := ⟨by decide +kernel, rfl⟩
theorem dX11_earnedBy_22 : di cX11_earnedBy 22 (.iaload) 1 23 := ⟨by decide +kernel, rfl⟩
theorem dX11_earnedBy_23 : di cX11_earnedBy 23 (.aload_n 0) 1 24 := ⟨by decide +kernel, rfl⟩
theorem dX11_earnedBy_24 : di cX11_earnedBy 24 (.getfield 78) 3 27 := ⟨by decide +kernel, rfl⟩
theorem dX11_earnedBy_27 : di cX11_earnedBy 27 (.iload_n 1) 1 28 := ⟨by decide +kernel, rfl⟩
theorem dX11_earnedBy_28 : di cX11_earnedBy 28 (.iaload) 1 29 := ⟨by decide +kernel, rfl⟩
theorem dX11_earnedBy_29 : di cX11_earnedBy 29 (.iload_n 2) 1 30 := ⟨by decide +kernel, rfl⟩
theorem dX11_earnedBy_30 : dj cX11_earnedBy 30 (.if_icmp .ge) 33 42 := ⟨12, by decide +kernel, rfl, rfl⟩
theorem dX11_earnedBy_33 : di cX11_earnedBy 33 (.aload_n 0) 1 34 := ⟨by decide +kernel, rfl⟩
theorem dX11_earnedBy_34 : di cX11_earnedBy 34 (.getfield 78) 3 37 := ⟨by decide +kernel, rfl⟩
theorem dX11_earnedBy_37 : di cX11_earnedBy 37 (.iload_n 1) 1 38 := ⟨by decide +kernel, rfl⟩
theorem dX11_earnedBy_38 : di cX11_earnedBy 38 (.iaload) 1 39 := ⟨by decide +kernel, rfl⟩
theorem dX11_earnedBy_39 : dj cX11_earnedBy 39 .goto 42 43 := ⟨4, by decide +kernel, rfl, rfl⟩
theorem dX11_earnedBy_42 : di cX11_earnedBy 42 (.iload_n 2) 1 43 := ⟨by decide +kernel, rfl⟩
theorem dX11_earnedBy_43 : di cX11_earnedBy 43 (.iadd) 1 44 := ⟨by decide +kernel, rfl⟩
theorem dX11_earnedBy_44 : di cX11_earnedBy 44 (.istore_n 3) 1 45 := ⟨by decide +kernel, rfl⟩
theorem dX11_earnedBy_45 : di cX11_earnedBy 45 (.iload_n 3) 1 46 := ⟨by decide +kernel, rfl⟩
theorem dX11_earnedBy_46 : di cX11_earnedBy 46 (.aload_n 0) 1 47 := ⟨by decide +kernel, rfl⟩
theorem dX11_earnedBy_47 : di cX11_earnedBy 47 (.aload_n 0) 1 48 := ⟨by decide +kernel, rfl⟩
theorem dX11_earnedBy_48 : di cX11_earnedBy 48 (.aload_n 0) 1 49 := ⟨by decide +kernel, rfl⟩
theorem dX11_earnedBy_49 : di cX11_earnedBy 49 (.getfield 72) 3 52 := ⟨by decide +kernel, rfl⟩
theorem dX11_earnedBy_52 : di cX11_earnedBy 52 (.iload_n 1) 1 53 := ⟨by decide +kernel, rfl⟩
theorem dX11_earnedBy_53 : di cX11_earnedBy 53 (.iaload) 1 54 := ⟨by decide +kernel, rfl⟩
theorem dX11_earnedBy_54 : di cX11_earnedBy 54 (.aload_n 0) 1 55 := ⟨by decide +kernel, rfl⟩
theorem dX11_earnedBy_55 : di cX11_earnedBy 55 (.getfield 66) 3 58 := ⟨by decide +kernel, rfl⟩
theorem dX11_earnedBy_58 : di cX11_earnedBy 58 (.iload_n 1) 1 59 := ⟨by decide +kernel, rfl⟩
theorem dX11_earnedBy_59 : di cX11_earnedBy 59 (.iaload) 1 60 := ⟨by decide +kernel, rfl⟩
theorem dX11_earnedBy_60 : di cX11_earnedBy 60 (.invokevirtual 195) 3 63 := ⟨by decide +kernel, rfl⟩
theorem dX11_earnedBy_63 : di cX11_earnedBy 63 (.invokevirtual 182) 3 66 := ⟨by decide +kernel, rfl⟩
theorem dX11_earnedBy_66 : di cX11_earnedBy 66 (.imul) 1 67 := ⟨by decide +kernel, rfl⟩
theorem dX11_earnedBy_67 : di cX11_earnedBy 67 (.bipush 100) 2 69 := ⟨by decide +kernel, rfl⟩
theorem dX11_earnedBy_69 : di cX11_earnedBy 69 (.idiv) 1 70 := ⟨by decide +kernel, rfl⟩
theorem dX11_earnedBy_70 : di cX11_earnedBy 70 (.istore 4) 2 72 := ⟨by decide +kernel, rfl⟩
theorem dX11_earnedBy_72 : di cX11_earnedBy 72 (.aload_n 0) 1 73 := ⟨by decide +kernel, rfl⟩
theorem dX11_earnedBy_73 : di cX11_earnedBy 73 (.getfield 99) 3 76 := ⟨by decide +kernel, rfl⟩
theorem dX11_earnedBy_76 : di cX11_earnedBy 76 (.bipush 8) 2 78 := ⟨by decide +kernel, rfl⟩
theorem dX11_earnedBy_78 : di cX11_earnedBy 78 (.aload_n 0) 1 79 := ⟨by decide +kernel, rfl⟩
theorem dX11_earnedBy_79 : di cX11_earnedBy 79 (.getfield 69) 3 82 := ⟨by decide +kernel, rfl⟩
theorem dX11_earnedBy_82 : di cX11_earnedBy 82 (.iload_n 1) 1 83 := ⟨by decide +kernel, rfl⟩
theorem dX11_earnedBy_83 : di cX11_earnedBy 83 (.iaload) 1 84 := ⟨by decide +kernel, rfl⟩
theorem dX11_earnedBy_84 : di cX11_earnedBy 84 (.imul) 1 85 := ⟨by decide +kernel, rfl⟩
theorem dX11_earnedBy_85 : di cX11_earnedBy 85 (.aload_n 0) 1 86 := ⟨by decide +kernel, rfl⟩
theorem dX11_earnedBy_86 : di cX11_earnedBy 86 (.getfield 72) 3 89 := ⟨by decide +kernel, rfl⟩
theorem dX11_earnedBy_89 : di cX11_earnedBy 89 (.iload_n 1) 1 90 := ⟨by decide +kernel, rfl⟩
theorem dX11_earnedBy_90 : di cX11_earnedBy 90 (.iaload) 1 91 := ⟨by decide +kernel, rfl⟩
theorem dX11_earnedBy_91 : di cX11_earnedBy 91 (.iadd) 1 92 := ⟨by decide +kernel, rfl⟩
theorem dX11_earnedBy_92 : di cX11_earnedBy 92 (.iaload) 1 93 := ⟨by decide +kernel, rfl⟩
theorem dX11_earnedBy_93 : di cX11_earnedBy 93 (.istore 5) 2 95 := ⟨by decide +kernel, rfl⟩
theorem dX11_earnedBy_95 : di cX11_earnedBy 95 (.iload 5) 2 97 := ⟨by decide +kernel, rfl⟩
theorem dX11_earnedBy_97 : dj cX11_earnedBy 97 (.ifCond .lt) 100 119 := ⟨22, by decide +kernel, rfl, rfl⟩
theorem dX11_earnedBy_100 : di cX11_earnedBy 100 (.aload_n 0) 1 101 := ⟨by decide +kernel, rfl⟩
theorem dX11_earnedBy_101 : di cX11_earnedBy 101 (.getfield 66) 3 104 := ⟨by decide +kernel, rfl⟩
theorem dX11_earnedBy_104 : di cX11_earnedBy 104 (.iload_n 1) 1 105 := ⟨by decide +kernel, rfl⟩
theorem dX11_earnedBy_105 : di cX11_earnedBy 105 (.iaload) 1 106 := ⟨by decide +kernel, rfl⟩
theorem dX11_earnedBy_106 : di cX11_earnedBy 106 (.iload 5) 2 108 := ⟨by decide +kernel, rfl⟩
theorem dX11_earnedBy_108 : dj cX11_earnedBy 108 (.if_icmp .ne) 111 119 := ⟨11, by decide +kernel, rfl, rfl⟩
theorem dX11_earnedBy_111 : di cX11_earnedBy 111 (.iload 4) 2 113 := ⟨by decide +kernel, rfl⟩
theorem dX11_earnedBy_113 : di cX11_earnedBy 113 (.iload 4) 2 115 := ⟨by decide +kernel, rfl⟩
theorem dX11_earnedBy_115 : di cX11_earnedBy 115 (.iconst 2) 1 116 := ⟨by decide +kernel, rfl⟩
theorem dX11_earnedBy_116 : di cX11_earnedBy 116 (.idiv) 1 117 := ⟨by decide +kernel, rfl⟩
theorem dX11_earnedBy_117 : di cX11_earnedBy 117 (.iadd) 1 118 := ⟨by decide +kernel, rfl⟩
theorem dX11_earnedBy_118 : di cX11_earnedBy 118 (.ireturn) 1 119 := ⟨by decide +kernel, rfl⟩
theorem dX11_earnedBy_119 : di cX11_earnedBy 119 (.iload 5) 2 121 := ⟨by decide +kernel, rfl⟩
theorem dX11_earnedBy_121 : dj cX11_earnedBy 121 (.ifCond .lt) 124 151 := ⟨30, by decide +kernel, rfl, rfl⟩
theorem dX11_earnedBy_124 : di cX11_earnedBy 124 (.aload_n 0) 1 125 := ⟨by decide +kernel, rfl⟩
theorem dX11_earnedBy_125 : di cX11_earnedBy 125 (.getfield 66) 3 128 := ⟨by decide +kernel, rfl⟩
theorem dX11_earnedBy_128 : di cX11_earnedBy 128 (.iload_n 1) 1 129 := ⟨by decide +kernel, rfl⟩
theorem dX11_earnedBy_129 : di cX11_earnedBy 129 (.iaload) 1 130 := ⟨by decide +kernel, rfl⟩
theorem dX11_earnedBy_130 : di cX11_earnedBy 130 (.iload 5) 2 132 := ⟨by decide +kernel, rfl⟩
theorem dX11_earnedBy_132 : di cX11_earnedBy 132 (.isub) 1 133 := ⟨by decide +kernel, rfl⟩
theorem dX11_earnedBy_133 : di cX11_earnedBy 133 (.iconst 1) 1 134 := ⟨by decide +kernel, rfl⟩
theorem dX11_earnedBy_134 : di cX11_earnedBy 134 (.iconst 3) 1 135 := ⟨by decide +kernel, rfl⟩
theorem dX11_earnedBy_135 : di cX11_earnedBy 135 (.invokestatic 133) 3 138 := ⟨by decide +kernel, rfl⟩
theorem dX11_earnedBy_138 : dj cX11_earnedBy 138 (.ifCond .eq) 141 151 := ⟨13, by decide +kernel, rfl, rfl⟩
theorem dX11_earnedBy_141 : di cX11_earnedBy 141 (.iload 4) 2 143 := ⟨by decide +kernel, rfl⟩
theorem dX11_earnedBy_143 : di cX11_earnedBy 143 (.iload 4) 2 145 := ⟨by decide +kernel, rfl⟩
theorem dX11_earnedBy_145 : di cX11_earnedBy 145 (.iconst 4) 1 146 := ⟨by decide +kernel, rfl⟩
theorem dX11_earnedBy_146 : di cX11_earnedBy 146 (.idiv) 1 147 := ⟨by decide +kernel, rfl⟩
theorem dX11_earnedBy_147 : di cX11_earnedBy 147 (.iadd) 1 148 := ⟨by decide +kernel, rfl⟩
theorem dX11_earnedBy_148 : dj cX11_earnedBy 148 .goto 151 153 := ⟨5, by decide +kernel, rfl, rfl⟩
theorem dX11_earnedBy_151 : di cX11_earnedBy 151 (.iload 4) 2 153 := ⟨by decide +kernel, rfl⟩
theorem dX11_earnedBy_153 : di cX11_earnedBy 153 (.ireturn) 1 154 := ⟨by decide +kernel, rfl⟩
def f_X11_earnedBy (v1 : Int32) (M : Mem) : Option Ret := gV v1 100 (gV (3 : Int32) 5 (bI (((M.1 85 v1.toNatClampNeg) * (M.1 80 (3 : Int32).toNatClampNeg)) / (100 : Int32)) (fun x1 => gV v1 100 (gV v1 100 (jn (α := Int32 → Option Ret) (fun (z3 : Int32) => bI ((M.1 85 v1.toNatClampNeg) + z3) (fun x4 => gV v1 100 (gV v1 100 (bE (f_X11_forceOf (M.1 84 v1.toNatClampNeg) (M.1 82 v1.toNatClampNeg) M) (fun r6 M5 => bE (f_X11_sumOf r6 M5) (fun r8 M7 => bI ((x4 * r8) / (100 : Int32)) (fun x9 => gV v1 100 (gV v1 100 (gV (((8 : Int32) * (M7.1 83 v1.toNatClampNeg)) + (M7.1 84 v1.toNatClampNeg)) 64 (bI (M7.1 93 (((8 : Int32) * (M7.1 83 v1.toNatClampNeg)) + (M7.1 84 v1.toNatClampNeg)).toNatClampNeg) (fun x10 => if x10 < 0 then (jn (α := Int32 → Mem → Option Ret) (fun (z12 : Int32) (M13 : Mem) => some (z12, M13)) (fun J11 => if x10 < 0 then (J11 x9 M7) else (gV v1 100 (bE (f_X11_isIn ((M7.1 82 v1.toNatClampNeg) - x10) (1 : Int32) (3 : Int32) M7) (fun r15 M14 => if r15 = 0 then (J11 x9 M14) else (J11 (x9 + (x9 / (4 : Int32))) M14)))))) else (gV v1 100 (if (M7.1 82 v1.toNatClampNeg) = x10 then (some (x9 + (x9 / (2 : Int32)), M7)) else (jn (α := Int32 → Mem → Option Ret) (fun (z17 : Int32) (M18 : Mem) => some (z17, M18)) (fun J16 => if x10 < 0 then (J16 x9 M7) else (gV v1 100 (bE (f_X11_isIn ((M7.1 82 v1.toNatClampNeg) - x10) (1 : Int32) (3 : Int32) M7) (fun r20 M19 => if r20 = 0 then (J16 x9 M19) else (J16 (x9 + (x9 / (4 : Int32))) M19))))))))))))))))))) (fun J2 => if x1 ≤ (M.1 86 v1.toNatClampNeg) then (J2 x1) else (gV v1 100 (J2 (M.1 86 v1.toNatClampNeg)))))))))
set_option maxRecDepth 100000 in
theorem ok_X11_earnedBy {l : Launch} {g : Cx} {v1 : Int32} {M : Mem} {r : Int32} {Mr : Mem} (h : f_X11_earnedBy v1 M = some (r, Mr)) : CT l g yX11_earnedBy cX11_earnedBy 6 (some .int) 1 24 [.ref (g.1 11), .int v1] M (PI r Mr) := by
  refine CT_of (lv := [some (.ref (g.1 11)), some (.int v1), none, none, none, none]) (by decide) rfl (Nat.le_of_ble_eq_true rfl) ?_
  unfold f_X11_earnedBy at h
  refine A_aload_n dX11_earnedBy_0 rfl ?_
  refine A_getf dX11_earnedBy_1 fw_X11_75 ob11 rfl ?_
  refine A_iload_n dX11_earnedBy_4 rfl ?_
  obtain ⟨hg, h⟩ := gV_go h
  refine A_iald dX11_earnedBy_5 ia85 hg ?_
  refine A_aload_n dX11_earnedBy_6 rfl ?_
  refine A_getf dX11_earnedBy_7 fw_X11_60 ob11 rfl ?_
  refine A_iconst (v := 3) dX11_earnedBy_10 (by decide) ?_
  obtain ⟨hg, h⟩ := gV_go h
  refine A_iald dX11_earnedBy_11 ia80 hg ?_
  refine A_imul dX11_earnedBy_12 ?_
  refine A_bipush (v := 100) dX11_earnedBy_13 (by decide) ?_
  refine A_idiv dX11_earnedBy_15 (by decide) ?_
  refine A_istoren2 dX11_earnedBy_16 (by decide) rfl (bI_go h (G := fun z => AT l g RX11 cX11_earnedBy 6 (some .int) (rmM 1 24) (PI r Mr) 17 [some (.ref (g.1 11)), some (.int v1), some (.int z), none, none, none] [] M) (fun x1 h => ?_))
  refine A_aload_n dX11_earnedBy_17 rfl ?_
  refine A_getf dX11_earnedBy_18 fw_X11_75 ob11 rfl ?_
  refine A_iload_n dX11_earnedBy_21 rfl ?_
  obtain ⟨hg, h⟩ := gV_go h
  refine A_iald dX11_earnedBy_22 ia85 hg ?_
  refine A_aload_n dX11_earnedBy_23 rfl ?_
  refine A_getf dX11_earnedBy_24 fw_X11_78 ob11 rfl ?_
  refine A_iload_n dX11_earnedBy_27 rfl ?_
  obtain ⟨hg, h⟩ := gV_go h
  refine A_iald dX11_earnedBy_28 ia86 hg ?_
  refine A_iload_n dX11_earnedBy_29 rfl ?_
  obtain ⟨J2, hJ2, h⟩ := jn_go h
  have JJ2 : ∀ (z3 : Int32), J2 z3 = some (r, Mr) → AT l g RX11 cX11_earnedBy 6 (some .int) (rmM 1 24) (PI r Mr) 43 [some (.ref (g.1 11)), some (.int v1), some (.int x1), none, none, none] [.int z3, .int (M.1 85 v1.toNatClampNeg)] M := by
    intro z3 h
    rw [hJ2] at h
    refine A_iadd dX11_earnedBy_43 ?_
    refine A_istoren3 dX11_earnedBy_44 (by decide) rfl (bI_go h (G := fun z => AT l g RX11 cX11_earnedBy 6 (some .int) (rmM 1 24) (PI r Mr) 45 [some (.ref (g.1 11)), some (.int v1), some (.int x1), some (.int z), none, none] [] M) (fun x4 h => ?_))
    refine A_iload_n dX11_earnedBy_45 rfl ?_
    refine A_aload_n dX11_earnedBy_46 rfl ?_
    refine A_aload_n dX11_earnedBy_47 rfl ?_
    refine A_aload_n dX11_earnedBy_48 rfl ?_
    refine A_getf dX11_earnedBy_49 fw_X11_72 ob11 rfl ?_
    refine A_iload_n dX11_earnedBy_52 rfl ?_
    obtain ⟨hg, h⟩ := gV_go h
    refine A_iald dX11_earnedBy_53 ia84 hg ?_
    refine A_aload_n dX11_earnedBy_54 rfl ?_
    refine A_getf dX11_earnedBy_55 fw_X11_66 ob11 rfl ?_
    refine A_iload_n dX11_earnedBy_58 rfl ?_
    obtain ⟨hg, h⟩ := gV_go h
    refine A_iald dX11_earnedBy_59 ia82 hg ?_
    obtain ⟨r6, M5, h1, h⟩ := bE_go h
    refine A_cVi2 dX11_earnedBy_60 ml_X11_195 mb_X11_forceOf mi_X11_forceOf ob11 rfl rfl ⟨Nat.le_of_ble_eq_true rfl, Nat.le_of_ble_eq_true rfl⟩ (Nat.le_of_ble_eq_true rfl) (ok_X11_forceOf h1) ?_
    obtain ⟨r8, M7, h1, h⟩ := bE_go h
    refine A_cVi1 dX11_earnedBy_63 ml_X11_182 mb_X11_sumOf mi_X11_sumOf ob11 rfl rfl ⟨Nat.le_of_ble_eq_true rfl, Nat.le_of_ble_eq_true rfl⟩ (Nat.le_of_ble_eq_true rfl) (ok_X11_sumOf h1) ?_
    refine A_imul dX11_earnedBy_66 ?_
    refine A_bipush (v := 100) dX11_earnedBy_67 (by decide) ?_
    refine A_idiv dX11_earnedBy_69 (by decide) ?_
    refine A_istore4 dX11_earnedBy_70 (by decide) rfl (bI_go h (G := fun z => AT l g RX11 cX11_earnedBy 6 (some .int) (rmM 1 24) (PI r Mr) 72 [some (.ref (g.1 11)), some (.int v1), some (.int x1), some (.int x4), some (.int z), none] [] M7) (fun x9 h => ?_))
    refine A_aload_n dX11_earnedBy_72 rfl ?_
    refine A_getf dX11_earnedBy_73 fw_X11_99 ob11 rfl ?_
    refine A_bipush (v := 8) dX11_earnedBy_76 (by decide) ?_
    refine A_aload_n dX11_earnedBy_78 rfl ?_
    refine A_getf dX11_earnedBy_79 fw_X11_69 ob11 rfl ?_
    refine A_iload_n dX11_earnedBy_82 rfl ?_
    obtain ⟨hg, h⟩ := gV_go h
    refine A_iald dX11_earnedBy_83 ia83 hg ?_
    refine A_imul dX11_earnedBy_84 ?_
    refine A_aload_n dX11_earnedBy_85 rfl ?_
    refine A_getf dX11_earnedBy_86 fw_X11_72 ob11 rfl ?_
    refine A_iload_n dX11_earnedBy_89 rfl ?_
    obtain ⟨hg, h⟩ := gV_go h
    refine A_iald dX11_earnedBy_90 ia84 hg ?_
    refine A_iadd dX11_earnedBy_91 ?_
    obtain ⟨hg, h⟩ := gV_go h
    refine A_iald dX11_earnedBy_92 ia93 hg ?_
    refine A_istore5 dX11_earnedBy_93 (by decide) rfl (bI_go h (G := fun z => AT l g RX11 cX11_earnedBy 6 (some .int) (rmM 1 24) (PI r Mr) 95 [some (.ref (g.1 11)), some (.int v1), some (.int x1), some (.int x4), some (.int x9), some (.int z)] [] M7) (fun x10 h => ?_))
    refine A_iload dX11_earnedBy_95 rfl ?_
    refine A_if_lt dX11_earnedBy_97 (fun hc => ?_) (fun hc => ?_)
    · have h := gT_go hc h
      refine A_iload dX11_earnedBy_119 rfl ?_
      obtain ⟨J11, hJ11, h⟩ := jn_go h
      have JJ11 : ∀ (z12 : Int32) (M13 : Mem), J11 z12 M13 = some (r, Mr) → AT l g RX11 cX11_earnedBy 6 (some .int) (rmM 1 24) (PI r Mr) 153 [some (.ref (g.1 11)), some (.int v1), some (.int x1), some (.int x4), some (.int x9), some (.int x10)] [.int z12] M13 := by
        intro z12 M13 h
        rw [hJ11] at h
        exact A_iret dX11_earnedBy_153 (pI_go h)
      refine A_if_lt dX11_earnedBy_121 (fun hc => ?_) (fun hc => ?_)
      · have h := gT_go hc h
        refine A_iload dX11_earnedBy_151 rfl ?_
        exact A_le (lvLe_s (lvLe_s (lvLe_s (lvLe_s (lvLe_s (lvLe_s lvLe_0)))))) (JJ11 _ _ h)
      · have h := gF_go hc h
        refine A_aload_n dX11_earnedBy_124 rfl ?_
        refine A_getf dX11_earnedBy_125 fw_X11_66 ob11 rfl ?_
        refine A_iload_n dX11_earnedBy_128 rfl ?_
        obtain ⟨hg, h⟩ := gV_go h
        refine A_iald dX11_earnedBy_129 ia82 hg ?_
        refine A_iload dX11_earnedBy_130 rfl ?_
        refine A_isub dX11_earnedBy_132 ?_
        refine A_iconst (v := 1) dX11_earnedBy_133 (by decide) ?_
        refine A_iconst (v := 3) dX11_earnedBy_134 (by decide) ?_
        obtain ⟨r15, M14, h1, h⟩ := bE_go h
        refine A_cSi3 dX11_earnedBy_135 ml_X11_133 mb_X11_isIn ms_X11_isIn ⟨Nat.le_of_ble_eq_true rfl, Nat.le_of_ble_eq_true rfl⟩ (Nat.le_of_ble_eq_true rfl) (ok_X11_isIn h1) ?_
        refine A_if_eq dX11_earnedBy_138 (fun hc => ?_) (fun hc => ?_)
        · have h := gT_go hc h
          refine A_iload dX11_earnedBy_151 rfl ?_
          exact A_le (lvLe_s (lvLe_s (lvLe_s (lvLe_s (lvLe_s (lvLe_s lvLe_0)))))) (JJ11 _ _ h)
        · have h := gF_go hc h
          refine A_iload dX11_earnedBy_141 rfl ?_
          refine A_iload dX11_earnedBy_143 rfl ?_
          refine A_iconst (v := 4) dX11_earnedBy_145 (by decide) ?_
          refine A_idiv dX11_earnedBy_146 (by decide) ?_
          refine A_iadd dX11_earnedBy_147 ?_
          refine A_goto dX11_earnedBy_148 ?_
          exact A_le (lvLe_s (lvLe_s (lvLe_s (lvLe_s (lvLe_s (lvLe_s lvLe_0)))))) (JJ11 _ _ h)
    · have h := gF_go hc h
      refine A_aload_n dX11_earnedBy_100 rfl ?_
      refine A_getf dX11_earnedBy_101 fw_X11_66 ob11 rfl ?_
      refine A_iload_n dX11_earnedBy_104 rfl ?_
      obtain ⟨hg, h⟩ := gV_go h
      refine A_iald dX11_earnedBy_105 ia82 hg ?_
      refine A_iload dX11_earnedBy_106 rfl ?_
      refine A_icmp_ne dX11_earnedBy_108 (fun hc => ?_) (fun hc => ?_)
      · have h := gF_go hc h
        refine A_iload dX11_earnedBy_119 rfl ?_
        obtain ⟨J16, hJ16, h⟩ := jn_go h
        have JJ16 : ∀ (z17 : Int32) (M18 : Mem), J16 z17 M18 = some (r, Mr) → AT l g RX11 cX11_earnedBy 6 (some .int) (rmM 1 24) (PI r Mr) 153 [some (.ref (g.1 11)), some (.int v1), some (.int x1), some (.int x4), some (.int x9), some (.int x10)] [.int z17] M18 := by
          intro z17 M18 h
          rw [hJ16] at h
          exact A_iret dX11_earnedBy_153 (pI_go h)
        refine A_if_lt dX11_earnedBy_121 (fun hc => ?_) (fun hc => ?_)
        · have h := gT_go hc h
          refine A_iload dX11_earnedBy_151 rfl ?_
          exact A_le (lvLe_s (lvLe_s (lvLe_s (lvLe_s (lvLe_s (lvLe_s lvLe_0)))))) (JJ16 _ _ h)
        · have h := gF_go hc h
          refine A_aload_n dX11_earnedBy_124 rfl ?_
          refine A_getf dX11_earnedBy_125 fw_X11_66 ob11 rfl ?_
          refine A_iload_n dX11_earnedBy_128 rfl ?_
          obtain ⟨hg, h⟩ := gV_go h
          refine A_iald dX11_earnedBy_129 ia82 hg ?_
          refine A_iload dX11_earnedBy_130 rfl ?_
          refine A_isub dX11_earnedBy_132 ?_
          refine A_iconst (v := 1) dX11_earnedBy_133 (by decide) ?_
          refine A_iconst (v := 3) dX11_earnedBy_134 (by decide) ?_
          obtain ⟨r20, M19, h1, h⟩ := bE_go h
          refine A_cSi3 dX11_earnedBy_135 ml_X11_133 mb_X11_isIn ms_X11_isIn ⟨Nat.le_of_ble_eq_true rfl, Nat.le_of_ble_eq_true rfl⟩ (Nat.le_of_ble_eq_true rfl) (ok_X11_isIn h1) ?_
          refine A_if_eq dX11_earnedBy_138 (fun hc => ?_) (fun hc => ?_)
          · have h := gT_go hc h
            refine A_iload dX11_earnedBy_151 rfl ?_
            exact A_le (lvLe_s (lvLe_s (lvLe_s (lvLe_s (lvLe_s (lvLe_s lvLe_0)))))) (JJ16 _ _ h)
          · have h := gF_go hc h
            refine A_iload dX11_earnedBy_141 rfl ?_
            refine A_iload dX11_earnedBy_143 rfl ?_
            refine A_iconst (v := 4) dX11_earnedBy_145 (by decide) ?_
            refine A_idiv dX11_earnedBy_146 (by decide) ?_
            refine A_iadd dX11_earnedBy_147 ?_
            refine A_goto dX11_earnedBy_148 ?_
            exact A_le (lvLe_s (lvLe_s (lvLe_s (lvLe_s (lvLe_s (lvLe_s lvLe_0)))))) (JJ16 _ _ h)
      · have h := gT_go hc h
        refine A_iload dX11_earnedBy_111 rfl ?_
        refine A_iload dX11_earnedBy_113 rfl ?_
        refine A_iconst (v := 2) dX11_earnedBy_115 (by decide) ?_
        refine A_idiv dX11_earnedBy_116 (by decide) ?_
        refine A_iadd dX11_earnedBy_117 ?_
        exact A_iret dX11_earnedBy_118 (pI_go h)
  refine A_icmp_ge dX11_earnedBy_30 (fun hc => ?_) (fun hc => ?_)
  · have h := gT_go hc h
    refine A_iload_n dX11_earnedBy_42 rfl ?_
    exact A_le (lvLe_s (lvLe_s (lvLe_s (lvLe_n (lvLe_n (lvLe_n lvLe_0)))))) (JJ2 _ h)
  · have h := gF_go hc h
    refine A_aload_n dX11_earnedBy_33 rfl ?_
    refine A_getf dX11_earnedBy_34 fw_X11_78 ob11 rfl ?_
    refine A_iload_n dX11_earnedBy_37 rfl ?_
    obtain ⟨hg, h⟩ := gV_go h
    refine A_iald dX11_earnedBy_38 ia86 hg ?_
    refine A_goto dX11_earnedBy_39 ?_
    exact A_le (lvLe_s (lvLe_s (lvLe_s (lvLe_n (lvLe_n (lvLe_n lvLe_0)))))) (JJ2 _ h)
