-- BenchTimesModel.earned
theorem dX11_earned_0 : di cX11_earned 0 (.iload_n 1) 1 1 := ⟨by decide +kernel, rfl⟩
theorem dX11_earned_1 : dj cX11_earned 1 (.ifCond .lt) 4 20 := ⟨19, by decide +kernel, rfl, rfl⟩
theorem dX11_earned_4 : di cX11_earned 4 (.iload_n 1) 1 5 := ⟨by decide +kernel, rfl⟩
theorem dX11_earned_5 : di cX11_earned 5 (.aload_n 0) 1 6 := ⟨by decide +kernel, rfl⟩
theorem dX11_earned_6 : di cX11_earned 6 (.getfield 221) 3 9 := ⟨by decide +kernel, rfl⟩
theorem dX11_earned_9 : dj cX11_earned 9 (.if_icmp .ge) 12 20 := ⟨11, by decide +kernel, rfl, rfl⟩
theorem dX11_earned_12 : di cX11_earned 12 (.aload_n 0) 1 13 := ⟨by decide +kernel, rfl⟩
theorem dX11_earned_13 : di cX11_earned 13 (.iload_n 1) 1 14 := ⟨by decide +kernel, rfl⟩
theorem dX11_earned_14 : di cX11_earned 14 (.invokevirtual 227) 3 17 := ⟨by decide +kernel, rfl⟩
theorem dX11_earned_17 : dj cX11_earned 17 .goto 20 25 := ⟨8, by decide +kernel, rfl, rfl⟩
theorem dX11_earned_20 : di cX11_earned 20 (.aload_n 0) 1 21 := ⟨by decide +kernel, rfl⟩
theorem dX11_earned_21 : di cX11_earned 21 (.iconst 1) 1 22 := ⟨by decide +kernel, rfl⟩
theorem dX11_earned_22 : di cX11_earned 22 (.invokevirtual 137) 3 25 := ⟨by decide +kernel, rfl⟩
theorem dX11_earned_25 : di cX11_earned 25 (.ireturn) 1 26 := ⟨by decide +kernel, rfl⟩
def f_X11_earned (v1 : Int32) (M : Mem) : Option Ret := jn (α := Int32 → Mem → Option Ret) (fun (z2 : Int32) (M3 : Mem) => some (z2, M3)) (fun J1 => if v1 < 0 then (bE (f_X11_finding (1 : Int32) M) (fun r5 M4 => J1 r5 M4)) else (if (M.1 11 25) ≤ v1 then (bE (f_X11_finding (1 : Int32) M) (fun r7 M6 => J1 r7 M6)) else (bE (f_X11_earnedBy v1 M) (fun r9 M8 => J1 r9 M8))))
set_option maxRecDepth 100000 in
theorem ok_X11_earned {l : Launch} {g : Cx} {v1 : Int32} {M : Mem} {r : Int32} {Mr : Mem} (h : f_X11_earned v1 M = some (r, Mr)) : CT l g yX11_earned cX11_earned 2 (some .int) 2 49 [.ref (g.1 11), .int v1] M (PI r Mr) := by
  refine CT_of (lv := [some (.ref (g.1 11)), some (.int v1)]) (by decide) rfl (Nat.le_of_ble_eq_true rfl) ?_
  unfold f_X11_earned at h
  refine A_iload_n dX11_earned_0 rfl ?_
  obtain ⟨J1, hJ1, h⟩ := jn_go h
  have JJ1 : ∀ (z2 : Int32) (M3 : Mem), J1 z2 M3 = some (r, Mr) → AT l g RX11 cX11_earned 2 (some .int) (rmM 2 49) (PI r Mr) 25 [some (.ref (g.1 11)), some (.int v1)] [.int z2] M3 := by
    intro z2 M3 h
    rw [hJ1] at h
    exact A_iret dX11_earned_25 (pI_go h)
  refine A_if_lt dX11_earned_1 (fun hc => ?_) (fun hc => ?_)
  · have h := gT_go hc h
    refine A_aload_n dX11_earned_20 rfl ?_
    refine A_iconst (v := 1) dX11_earned_21 (by decide) ?_
    obtain ⟨r5, M4, h1, h⟩ := bE_go h
    refine A_cVi1 dX11_earned_22 ml_X11_137 mb_X11_finding mi_X11_finding ob11 rfl rfl ⟨Nat.le_of_ble_eq_true rfl, Nat.le_of_ble_eq_true rfl⟩ (Nat.le_of_ble_eq_true rfl) (ok_X11_finding h1) ?_
    exact A_le (lvLe_s (lvLe_s lvLe_0)) (JJ1 _ _ h)
  · have h := gF_go hc h
    refine A_iload_n dX11_earned_4 rfl ?_
    refine A_aload_n dX11_earned_5 rfl ?_
    refine A_getf dX11_earned_6 fw_X11_221 ob11 rfl ?_
    refine A_icmp_ge dX11_earned_9 (fun hc => ?_) (fun hc => ?_)
    · have h := gT_go hc h
      refine A_aload_n dX11_earned_20 rfl ?_
      refine A_iconst (v := 1) dX11_earned_21 (by decide) ?_
      obtain ⟨r7, M6, h1, h⟩ := bE_go h
      refine A_cVi1 dX11_earned_22 ml_X11_137 mb_X11_finding mi_X11_finding ob11 rfl rfl ⟨Nat.le_of_ble_eq_true rfl, Nat.le_of_ble_eq_true rfl⟩ (Nat.le_of_ble_eq_true rfl) (ok_X11_finding h1) ?_
      exact A_le (lvLe_s (lvLe_s lvLe_0)) (JJ1 _ _ h)
    · have h := gF_go hc h
      refine A_aload_n dX11_earned_12 rfl ?_
      refine A_iload_n dX11_earned_13 rfl ?_
      obtain ⟨r9, M8, h1, h⟩ := bE_go h
      refine A_cVi1 dX11_earned_14 ml_X11_227 mb_X11_earnedBy mi_X11_earnedBy ob11 rfl rfl ⟨Nat.le_of_ble_eq_true rfl, Nat.le_of_ble_eq_true rfl⟩ (Nat.le_of_ble_eq_true rfl) (ok_X11_earnedBy h1) ?_
      refine A_goto dX11_earned_17 ?_
      exact A_le (lvLe_s (lvLe_s lvLe_0)) (JJ1 _ _ h)
-- BenchTimesModel.payOf
theorem dX11_payOf_0 : di cX11_payOf 0 (.iconst 0) 1 1 := ⟨by decide +kernel, rfl⟩
theorem dX11_payOf_1 : di cX11_payOf 1 (.istore 4) 2 3 := ⟨by decide +kernel, rfl⟩
theorem dX11_payOf_3 : di cX11_payOf 3 (.iconst 0) 1 4 := ⟨by decide +kernel, rfl⟩
theorem dX11_payOf_4 : di cX11_payOf 4 (.istore 5) 2 6 := ⟨by decide +kernel, rfl⟩
theorem dX11_payOf_6 : di cX11_payOf 6 (.iconst 0) 1 7 := ⟨by decide +kernel, rfl⟩
theorem dX11_payOf_7 : di cX11_payOf 7 (.istore 6) 2 9 := ⟨by decide +kernel, rfl⟩
theorem dX11_payOf_9 : di cX11_payOf 9 (.iconst 0) 1 10 := ⟨by decide +kernel, rfl⟩
theorem dX11_payOf_10 : di cX11_payOf 10 (.istore 7) 2 12 := ⟨by decide +kernel, rfl⟩
theorem dX11_payOf_12 : di cX11_payOf 12 (.iload 7) 2 14 := ⟨by decide +kernel, rfl⟩
theorem dX11_payOf_14 : di cX11_payOf 14 (.aload_n 0) 1 15 := ⟨by decide +kernel, rfl⟩
theorem dX11_payOf_15 : di cX11_payOf 15 (.getfield 221) 3 18 := ⟨by decide +kernel, rfl⟩
theorem dX11_payOf_18 : dj cX11_payOf 18 (.if_icmp .ge) 21 72 := ⟨54, by decide +kernel, rfl, rfl⟩
theorem dX11_payOf_21 : di cX11_payOf 21 (.aload_n 0) 1 22 := ⟨by decide +kernel, rfl⟩
theorem dX11_payOf_22 : di cX11_payOf 22 (.getfield 69) 3 25 := ⟨by decide +kernel, rfl⟩
theorem dX11_payOf_25 : di cX11_payOf 25 (.iload 7) 2 27 := ⟨by decide +kernel, rfl⟩
theorem dX11_payOf_27 : di cX11_payOf 27 (.iaload) 1 28 := ⟨by decide +kernel, rfl⟩
theorem dX11_payOf_28 : di cX11_payOf 28 (.iload_n 1) 1 29 := ⟨by decide +kernel, rfl⟩
theorem dX11_payOf_29 : dj cX11_payOf 29 (.if_icmp .ne) 32 66 := ⟨37, by decide +kernel, rfl, rfl⟩
theorem dX11_payOf_32 : di cX11_payOf 32 (.aload_n 0) 1 33 := ⟨by decide +kernel, rfl⟩
theorem dX11_payOf_33 : di cX11_payOf 33 (.getfield 66) 3 36 := ⟨by decide +kernel, rfl⟩
theorem dX11_payOf_36 : di cX11_payOf 36 (.iload 7) 2 38 := ⟨by decide +kernel, rfl⟩
theorem dX11_payOf_38 : di cX11_payOf 38 (.iaload) 1 39 := ⟨by decide +kernel, rfl⟩
theorem dX11_payOf_39 : di cX11_payOf 39 (.iload_n 2) 1 40 := ⟨by decide +kernel, rfl⟩
theorem dX11_payOf_40 : dj cX11_payOf 40 (.if_icmp .ne) 43 66 := ⟨26, by decide +kernel, rfl, rfl⟩
theorem dX11_payOf_43 : di cX11_payOf 43 (.iload 4) 2 45 := ⟨by decide +kernel, rfl⟩
theorem dX11_payOf_45 : di cX11_payOf 45 (.aload_n 0) 1 46 := ⟨by decide +kernel, rfl⟩
theorem dX11_payOf_46 : di cX11_payOf 46 (.iload 7) 2 48 := ⟨by decide +kernel, rfl⟩
theorem dX11_payOf_48 : di cX11_payOf 48 (.invokevirtual 227) 3 51 := ⟨by decide +kernel, rfl⟩
theorem dX11_payOf_51 : di cX11_payOf 51 (.iadd) 1 52 := ⟨by decide +kernel, rfl⟩
theorem dX11_payOf_52 : di cX11_payOf 52 (.istore 4) 2 54 := ⟨by decide +kernel, rfl⟩
theorem dX11_payOf_54 : di cX11_payOf 54 (.iload 5) 2 56 := ⟨by decide +kernel, rfl⟩
theorem dX11_payOf_56 : di cX11_payOf 56 (.aload_n 0) 1 57 := ⟨by decide +kernel, rfl⟩
theorem dX11_payOf_57 : di cX11_payOf 57 (.getfield 81) 3 60 := ⟨by decide +kernel, rfl⟩
theorem dX11_payOf_60 : di cX11_payOf 60 (.iload 7) 2 62 := ⟨by decide +kernel, rfl⟩
theorem dX11_payOf_62 : di cX11_payOf 62 (.iaload) 1 63 := ⟨by decide +kernel, rfl⟩
theorem dX11_payOf_63 : di cX11_payOf 63 (.iadd) 1 64 := ⟨by decide +kernel, rfl⟩
theorem dX11_payOf_64 : di cX11_payOf 64 (.istore 5) 2 66 := ⟨by decide +kernel, rfl⟩
theorem dX11_payOf_66 : di cX11_payOf 66 (.iinc 7 1) 3 69 := ⟨by decide +kernel, rfl⟩
theorem dX11_payOf_69 : dj cX11_payOf 69 .goto 72 12 := ⟨-57, by decide +kernel, rfl, rfl⟩
theorem dX11_payOf_72 : di cX11_payOf 72 (.iconst 0) 1 73 := ⟨by decide +kernel, rfl⟩
theorem dX11_payOf_73 : di cX11_payOf 73 (.istore 7) 2 75 := ⟨by decide +kernel, rfl⟩
theorem dX11_payOf_75 : di cX11_payOf 75 (.iload 7) 2 77 := ⟨by decide +kernel, rfl⟩
theorem dX11_payOf_77 : di cX11_payOf 77 (.aload_n 0) 1 78 := ⟨by decide +kernel, rfl⟩
theorem dX11_payOf_78 : di cX11_payOf 78 (.getfield 224) 3 81 := ⟨by decide +kernel, rfl⟩
theorem dX11_payOf_81 : dj cX11_payOf 81 (.if_icmp .ge) 84 128 := ⟨47, by decide +kernel, rfl, rfl⟩
theorem dX11_payOf_84 : di cX11_payOf 84 (.iload 6) 2 86 := ⟨by decide +kernel, rfl⟩
theorem dX11_payOf_86 : di cX11_payOf 86 (.aload_n 0) 1 87 := ⟨by decide +kernel, rfl⟩
theorem dX11_payOf_87 : di cX11_payOf 87 (.getfield 90) 3 90 := ⟨by decide +kernel, rfl⟩
theorem dX11_payOf_90 : di cX11_payOf 90 (.iload 7) 2 92 := ⟨by decide +kernel, rfl⟩
theorem dX11_payOf_92 : di cX11_payOf 92 (.iaload) 1 93 := ⟨by decide +kernel, rfl⟩
theorem dX11_payOf_93 : di cX11_payOf 93 (.iload_n 1) 1 94 := ⟨by decide +kernel, rfl⟩
theorem dX11_payOf_94 : dj cX11_payOf 94 (.if_icmp .ne) 97 118 := ⟨24, by decide +kernel, rfl, rfl⟩
theorem dX11_payOf_97 : di cX11_payOf 97 (.aload_n 0) 1 98 := ⟨by decide +kernel, rfl⟩
theorem dX11_payOf_98 : di cX11_payOf 98 (.getfield 87) 3 101 := ⟨by decide +kernel, rfl⟩
theorem dX11_payOf_101 : di cX11_payOf 101 (.iload 7) 2 103 := ⟨by decide +kernel, rfl⟩
theorem dX11_payOf_103 : di cX11_payOf 103 (.iaload) 1 104 := ⟨by decide +kernel, rfl⟩
theorem dX11_payOf_104 : di cX11_payOf 104 (.iload_n 2) 1 105 := ⟨by decide +kernel, rfl⟩
theorem dX11_payOf_105 : dj cX11_payOf 105 (.if_icmp .ne) 108 118 := ⟨13, by decide +kernel, rfl, rfl⟩
theorem dX11_payOf_108 : di cX11_payOf 108 (.aload_n 0) 1 109 := ⟨by decide +kernel, rfl⟩
theorem dX11_payOf_109 : di cX11_payOf 109 (.getfield 96) 3 112 := ⟨by decide +kernel, rfl⟩
theorem dX11_payOf_112 : di cX11_payOf 112 (.iload 7) 2 114 := ⟨by decide +kernel, rfl⟩
theorem dX11_payOf_114 : di cX11_payOf 114 (.iaload) 1 115 := ⟨by decide +kernel, rfl⟩
theorem dX11_payOf_115 : dj cX11_payOf 115 .goto 118 119 := ⟨4, by decide +kernel, rfl, rfl⟩
theorem dX11_payOf_118 : di cX11_payOf 118 (.iconst 0) 1 119 := ⟨by decide +kernel, rfl⟩
theorem dX11_payOf_119 : di cX11_payOf 119 (.iadd) 1 120 := ⟨by decide +kernel, rfl⟩
theorem dX11_payOf_120 : di cX11_payOf 120 (.istore 6) 2 122 := ⟨by decide +kernel, rfl⟩
theorem dX11_payOf_122 : di cX11_payOf 122 (.iinc 7 1) 3 125 := ⟨by decide +kernel, rfl⟩
theorem dX11_payOf_125 : dj cX11_payOf 125 .goto 128 75 := ⟨-50, by decide +kernel, rfl, rfl⟩
theorem dX11_payOf_128 : di cX11_payOf 128 (.iload 6) 2 130 := ⟨by decide +kernel, rfl⟩
theorem dX11_payOf_130 : di cX11_payOf 130 (.aload_n 0) 1 131 := ⟨by decide +kernel, rfl⟩
theorem dX11_payOf_131 : di cX11_payOf 131 (.getfield 60) 3 134 := ⟨by decide +kernel, rfl⟩
theorem dX11_payOf_134 : di cX11_payOf 134 (.iconst 2) 1 135 := ⟨by decide +kernel, rfl⟩
theorem dX11_payOf_135 : di cX11_payOf 135 (.iaload) 1 136 := ⟨by decide +kernel, rfl⟩
theorem dX11_payOf_136 : di cX11_payOf 136 (.imul) 1 137 := ⟨by decide +kernel, rfl⟩
theorem dX11_payOf_137 : di cX11_payOf 137 (.bipush 100) 2 139 := ⟨by decide +kernel, rfl⟩
theorem dX11_payOf_139 : di cX11_payOf 139 (.idiv) 1 140 := ⟨by decide +kernel, rfl⟩
theorem dX11_payOf_140 : di cX11_payOf 140 (.istore 7) 2 142 := ⟨by decide +kernel, rfl⟩
theorem dX11_payOf_142 : di cX11_payOf 142 (.iload 5) 2 144 := ⟨by decide +kernel, rfl⟩
theorem dX11_payOf_144 : di cX11_payOf 144 (.iload 6) 2 146 := ⟨by decide +kernel, rfl⟩
theorem dX11_payOf_146 : di cX11_payOf 146 (.iadd) 1 147 := ⟨by decide +kernel, rfl⟩
theorem dX11_payOf_147 : di cX11_payOf 147 (.aload_n 0) 1 148 := ⟨by decide +kernel, rfl⟩
theorem dX11_payOf_148 : di cX11_payOf 148 (.getfield 60) 3 151 := ⟨by decide +kernel, rfl⟩
theorem dX11_payOf_151 : di cX11_payOf 151 (.iconst 4) 1 152 := ⟨by decide +kernel, rfl⟩
theorem dX11_payOf_152 : di cX11_payOf 152 (.iaload) 1 153 := ⟨by decide +kernel, rfl⟩
theorem dX11_payOf_153 : di cX11_payOf 153 (.imul) 1 154 := ⟨by decide +kernel, rfl⟩
theorem dX11_payOf_154 : di cX11_payOf 154 (.bipush 100) 2 156 := ⟨by decide +kernel, rfl⟩
theorem dX11_payOf_156 : di cX11_payOf 156 (.idiv) 1 157 := ⟨by decide +kernel, rfl⟩
theorem dX11_payOf_157 : di cX11_payOf 157 (.istore 8) 2 159 := ⟨by decide +kernel, rfl⟩
theorem dX11_payOf_159 : di cX11_payOf 159 (.iload_n 3) 1 160 := ⟨by decide +kernel, rfl⟩
theorem dX11_payOf_160 : dts cX11_payOf 160 (0) (3) 222 [192, 213, 216, 219] := ⟨62, #[32, 53, 56, 59], 32, by decide +kernel, rfl, by decide +kernel⟩
theorem dX11_payOf_192 : di cX11_payOf 192 (.iload 4) 2 194 := ⟨by decide +kernel, rfl⟩
theorem dX11_payOf_194 : di cX11_payOf 194 (.iload 7) 2 196 := ⟨by decide +kernel, rfl⟩
theorem dX11_payOf_196 : di cX11_payOf 196 (.iadd) 1 197 := ⟨by decide +kernel, rfl⟩
theorem dX11_payOf_197 : di cX11_payOf 197 (.iload 8) 2 199 := ⟨by decide +kernel, rfl⟩
theorem dX11_payOf_199 : dj cX11_payOf 199 (.if_icmp .ge) 202 207 := ⟨8, by decide +kernel, rfl, rfl⟩
theorem dX11_payOf_202 : di cX11_payOf 202 (.iload 8) 2 204 := ⟨by decide +kernel, rfl⟩
theorem dX11_payOf_204 : dj cX11_payOf 204 .goto 207 212 := ⟨8, by decide +kernel, rfl, rfl⟩
theorem dX11_payOf_207 : di cX11_payOf 207 (.iload 4) 2 209 := ⟨by decide +kernel, rfl⟩
theorem dX11_payOf_209 : di cX11_payOf 209 (.iload 7) 2 211 := ⟨by decide +kernel, rfl⟩
theorem dX11_payOf_211 : di cX11_payOf 211 (.iadd) 1 212 := ⟨by decide +kernel, rfl⟩
theorem dX11_payOf_212 : di cX11_payOf 212 (.ireturn) 1 213 := ⟨by decide +kernel, rfl⟩
theorem dX11_payOf_213 : di cX11_payOf 213 (.iload 4) 2 215 := ⟨by decide +kernel, rfl⟩
theorem dX11_payOf_215 : di cX11_payOf 215 (.ireturn) 1 216 := ⟨by decide +kernel, rfl⟩
theorem dX11_payOf_216 : di cX11_payOf 216 (.iload 7) 2 218 := ⟨by decide +kernel, rfl⟩
theorem dX11_payOf_218 : di cX11_payOf 218 (.ireturn) 1 219 := ⟨by decide +kernel, rfl⟩
theorem dX11_payOf_219 : di cX11_payOf 219 (.iload 5) 2 221 := ⟨by decide +kernel, rfl⟩
theorem dX11_payOf_221 : di cX11_payOf 221 (.ireturn) 1 222 := ⟨by decide +kernel, rfl⟩
theorem dX11_payOf_222 : di cX11_payOf 222 (.iload 6) 2 224 := ⟨by decide +kernel, rfl⟩
theorem dX11_payOf_224 : di cX11_payOf 224 (.ireturn) 1 225 := ⟨by decide +kernel, rfl⟩
def f_X11_payOf_L12 (v1 : Int32) (v2 : Int32) (v3 : Int32) (v6 : Int32) : Nat → Int32 → Int32 → Int32 → Mem → (Int32 → Int32 → Int32 → Mem → Option Ret) → Option Ret
  | 0, _, _, _, _, _ => none
  | k12 + 1, v4, v5, v7, M, K12 => if (M.1 11 25) ≤ v7 then (K12 v4 v5 v7 M) else (gV v7 100 (jn (α := Int32 → Int32 → Mem → Option Ret) (fun (y2 : Int32) (y3 : Int32) (M4 : Mem) => f_X11_payOf_L12 v1 v2 v3 v6 k12 y2 y3 (v7 + (1 : Int32)) M4 K12) (fun J1 => if (M.1 83 v7.toNatClampNeg) = v1 then (gV v7 100 (if (M.1 82 v7.toNatClampNeg) = v2 then (bE (f_X11_earnedBy v7 M) (fun r6 M5 => bI (v4 + r6) (fun x7 => gV v7 100 (bI (v5 + (M5.1 87 v7.toNatClampNeg)) (fun x8 => J1 x7 x8 M5))))) else (J1 v4 v5 M))) else (J1 v4 v5 M))))
set_option maxRecDepth 100000 in
theorem f_X11_payOf_L12_ok {l : Launch} {g : Cx} (v1 : Int32) (v2 : Int32) (v3 : Int32) (v6 : Int32)  {r : Int32} {Mr : Mem} : ∀ (k : Nat) (v4 : Int32) (v5 : Int32) (v7 : Int32) (M : Mem) (K12 : Int32 → Int32 → Int32 → Mem → Option Ret), f_X11_payOf_L12 v1 v2 v3 v6 k v4 v5 v7 M K12 = some (r, Mr) → (∀ (v4 : Int32) (v5 : Int32) (v7 : Int32) (M : Mem), K12 v4 v5 v7 M = some (r, Mr) → AT l g RX11 cX11_payOf 9 (some .int) (rmM 2 49) (PI r Mr) 72 [some (.ref (g.1 11)), some (.int v1), some (.int v2), some (.int v3), some (.int v4), some (.int v5), some (.int v6), some (.int v7), none] [] M) → AT l g RX11 cX11_payOf 9 (some .int) (rmM 2 49) (PI r Mr) 12 [some (.ref (g.1 11)), some (.int v1), some (.int v2), some (.int v3), some (.int v4), some (.int v5), some (.int v6), some (.int v7), none] [] M
  | 0, v4, v5, v7, M, K12, h, hK12 => by cases h
  | k12 + 1, v4, v5, v7, M, K12, h, hK12 => by
    have ih12 := f_X11_payOf_L12_ok (l := l) (g := g) v1 v2 v3 v6 (r := r) (Mr := Mr) k12
    rw [f_X11_payOf_L12] at h
    refine A_iload dX11_payOf_12 rfl ?_
    refine A_aload_n dX11_payOf_14 rfl ?_
    refine A_getf dX11_payOf_15 fw_X11_221 ob11 rfl ?_
    refine A_icmp_ge dX11_payOf_18 (fun hc => ?_) (fun hc => ?_)
    · have h := gT_go hc h
      exact A_le (lvLe_s (lvLe_s (lvLe_s (lvLe_s (lvLe_s (lvLe_s (lvLe_s (lvLe_s (lvLe_n lvLe_0))))))))) (hK12 _ _ _ _ h)
    · have h := gF_go hc h
      refine A_aload_n dX11_payOf_21 rfl ?_
      refine A_getf dX11_payOf_22 fw_X11_69 ob11 rfl ?_
      refine A_iload dX11_payOf_25 rfl ?_
      obtain ⟨hg, h⟩ := gV_go h
      refine A_iald dX11_payOf_27 ia83 hg ?_
      refine A_iload_n dX11_payOf_28 rfl ?_
      obtain ⟨J1, hJ1, h⟩ := jn_go h
      have JJ1 : ∀ (y2 : Int32) (y3 : Int32) (M4 : Mem), J1 y2 y3 M4 = some (r, Mr) → AT l g RX11 cX11_payOf 9 (some .int) (rmM 2 49) (PI r Mr) 66 [some (.ref (g.1 11)), some (.int v1), some (.int v2), some (.int v3), some (.int y2), some (.int y3), some (.int v6), some (.int v7), none] [] M4 := by
        intro y2 y3 M4 h
        rw [hJ1] at h
        refine A_iinc7 (d := 1) dX11_payOf_66 (by decide) (by decide) rfl ?_
        refine A_goto dX11_payOf_69 ?_
        exact A_le (lvLe_s (lvLe_s (lvLe_s (lvLe_s (lvLe_s (lvLe_s (lvLe_s (lvLe_s (lvLe_n lvLe_0))))))))) (ih12 _ _ _ _ K12 h hK12)
      refine A_icmp_ne dX11_payOf_29 (fun hc => ?_) (fun hc => ?_)
      · have h := gF_go hc h
        exact A_le (lvLe_s (lvLe_s (lvLe_s (lvLe_s (lvLe_s (lvLe_s (lvLe_s (lvLe_s (lvLe_n lvLe_0))))))))) (JJ1 _ _ _ h)
      · have h := gT_go hc h
        refine A_aload_n dX11_payOf_32 rfl ?_
        refine A_getf dX11_payOf_33 fw_X11_66 ob11 rfl ?_
        refine A_iload dX11_payOf_36 rfl ?_
        obtain ⟨hg, h⟩ := gV_go h
        refine A_iald dX11_payOf_38 ia82 hg ?_
        refine A_iload_n dX11_payOf_39 rfl ?_
        refine A_icmp_ne dX11_payOf_40 (fun hc => ?_) (fun hc => ?_)
        · have h := gF_go hc h
          exact A_le (lvLe_s (lvLe_s (lvLe_s (lvLe_s (lvLe_s (lvLe_s (lvLe_s (lvLe_s (lvLe_n lvLe_0))))))))) (JJ1 _ _ _ h)
        · have h := gT_go hc h
          refine A_iload dX11_payOf_43 rfl ?_
          refine A_aload_n dX11_payOf_45 rfl ?_
          refine A_iload dX11_payOf_46 rfl ?_
          obtain ⟨r6, M5, h1, h⟩ := bE_go h
          refine A_cVi1 dX11_payOf_48 ml_X11_227 mb_X11_earnedBy mi_X11_earnedBy ob11 rfl rfl ⟨Nat.le_of_ble_eq_true rfl, Nat.le_of_ble_eq_true rfl⟩ (Nat.le_of_ble_eq_true rfl) (ok_X11_earnedBy h1) ?_
          refine A_iadd dX11_payOf_51 ?_
          refine A_istore4 dX11_payOf_52 (by decide) rfl (bI_go h (G := fun z => AT l g RX11 cX11_payOf 9 (some .int) (rmM 2 49) (PI r Mr) 54 [some (.ref (g.1 11)), some (.int v1), some (.int v2), some (.int v3), some (.int z), some (.int v5), some (.int v6), some (.int v7), none] [] M5) (fun x7 h => ?_))
          refine A_iload dX11_payOf_54 rfl ?_
          refine A_aload_n dX11_payOf_56 rfl ?_
          refine A_getf dX11_payOf_57 fw_X11_81 ob11 rfl ?_
          refine A_iload dX11_payOf_60 rfl ?_
          obtain ⟨hg, h⟩ := gV_go h
          refine A_iald dX11_payOf_62 ia87 hg ?_
          refine A_iadd dX11_payOf_63 ?_
          refine A_istore5 dX11_payOf_64 (by decide) rfl (bI_go h (G := fun z => AT l g RX11 cX11_payOf 9 (some .int) (rmM 2 49) (PI r Mr) 66 [some (.ref (g.1 11)), some (.int v1), some (.int v2), some (.int v3), some (.int x7), some (.int z), some (.int v6), some (.int v7), none] [] M5) (fun x8 h => ?_))
          exact A_le (lvLe_s (lvLe_s (lvLe_s (lvLe_s (lvLe_s (lvLe_s (lvLe_s (lvLe_s (lvLe_n lvLe_0))))))))) (JJ1 _ _ _ h)
def f_X11_payOf_L75 (v1 : Int32) (v2 : Int32) (v3 : Int32) (v4 : Int32) (v5 : Int32) : Nat → Int32 → Int32 → Mem → (Int32 → Int32 → Mem → Option Ret) → Option Ret
  | 0, _, _, _, _ => none
  | k75 + 1, v6, v7, M, K75 => if (M.1 11 33) ≤ v7 then (K75 v6 v7 M) else (gV v7 60 (jn (α := Int32 → Option Ret) (fun (z14 : Int32) => bI (v6 + z14) (fun x15 => f_X11_payOf_L75 v1 v2 v3 v4 v5 k75 x15 (v7 + (1 : Int32)) M K75)) (fun J13 => if (M.1 90 v7.toNatClampNeg) = v1 then (gV v7 60 (if (M.1 89 v7.toNatClampNeg) = v2 then (gV v7 60 (J13 (M.1 92 v7.toNatClampNeg))) else (J13 (0 : Int32)))) else (J13 (0 : Int32)))))
set_option maxRecDepth 100000 in
theorem f_X11_payOf_L75_ok {l : Launch} {g : Cx} (v1 : Int32) (v2 : Int32) (v3 : Int32) (v4 : Int32) (v5 : Int32)  {r : Int32} {Mr : Mem} : ∀ (k : Nat) (v6 : Int32) (v7 : Int32) (M : Mem) (K75 : Int32 → Int32 → Mem → Option Ret), f_X11_payOf_L75 v1 v2 v3 v4 v5 k v6 v7 M K75 = some (r, Mr) → (∀ (v6 : Int32) (v7 : Int32) (M : Mem), K75 v6 v7 M = some (r, Mr) → AT l g RX11 cX11_payOf 9 (some .int) (rmM 2 49) (PI r Mr) 128 [some (.ref (g.1 11)), some (.int v1), some (.int v2), some (.int v3), some (.int v4), some (.int v5), some (.int v6), some (.int v7), none] [] M) → AT l g RX11 cX11_payOf 9 (some .int) (rmM 2 49) (PI r Mr) 75 [some (.ref (g.1 11)), some (.int v1), some (.int v2), some (.int v3), some (.int v4), some (.int v5), some (.int v6), some (.int v7), none] [] M
  | 0, v6, v7, M, K75, h, hK75 => by cases h
  | k75 + 1, v6, v7, M, K75, h, hK75 => by
    have ih75 := f_X11_payOf_L75_ok (l := l) (g := g) v1 v2 v3 v4 v5 (r := r) (Mr := Mr) k75
    rw [f_X11_payOf_L75] at h
    refine A_iload dX11_payOf_75 rfl ?_
    refine A_aload_n dX11_payOf_77 rfl ?_
    refine A_getf dX11_payOf_78 fw_X11_224 ob11 rfl ?_
    refine A_icmp_ge dX11_payOf_81 (fun hc => ?_) (fun hc => ?_)
    · have h := gT_go hc h
      exact A_le (lvLe_s (lvLe_s (lvLe_s (lvLe_s (lvLe_s (lvLe_s (lvLe_s (lvLe_s (lvLe_n lvLe_0))))))))) (hK75 _ _ _ h)
    · have h := gF_go hc h
      refine A_iload dX11_payOf_84 rfl ?_
      refine A_aload_n dX11_payOf_86 rfl ?_
      refine A_getf dX11_payOf_87 fw_X11_90 ob11 rfl ?_
      refine A_iload dX11_payOf_90 rfl ?_
      obtain ⟨hg, h⟩ := gV_go h
      refine A_iald dX11_payOf_92 ia90 hg ?_
      refine A_iload_n dX11_payOf_93 rfl ?_
      obtain ⟨J13, hJ13, h⟩ := jn_go h
      have JJ13 : ∀ (z14 : Int32), J13 z14 = some (r, Mr) → AT l g RX11 cX11_payOf 9 (some .int) (rmM 2 49) (PI r Mr) 119 [some (.ref (g.1 11)), some (.int v1), some (.int v2), some (.int v3), some (.int v4), some (.int v5), some (.int v6), some (.int v7), none] [.int z14, .int v6] M := by
        intro z14 h
        rw [hJ13] at h
        refine A_iadd dX11_payOf_119 ?_
        refine A_istore6 dX11_payOf_120 (by decide) rfl (bI_go h (G := fun z => AT l g RX11 cX11_payOf 9 (some .int) (rmM 2 49) (PI r Mr) 122 [some (.ref (g.1 11)), some (.int v1), some (.int v2), some (.int v3), some (.int v4), some (.int v5), some (.int z), some (.int v7), none] [] M) (fun x15 h => ?_))
        refine A_iinc7 (d := 1) dX11_payOf_122 (by decide) (by decide) rfl ?_
        refine A_goto dX11_payOf_125 ?_
        exact A_le (lvLe_s (lvLe_s (lvLe_s (lvLe_s (lvLe_s (lvLe_s (lvLe_s (lvLe_s (lvLe_n lvLe_0))))))))) (ih75 _ _ _ K75 h hK75)
      refine A_icmp_ne dX11_payOf_94 (fun hc => ?_) (fun hc => ?_)
      · have h := gF_go hc h
        refine A_iconst (v := 0) dX11_payOf_118 (by decide) ?_
        exact A_le (lvLe_s (lvLe_s (lvLe_s (lvLe_s (lvLe_s (lvLe_s (lvLe_s (lvLe_s (lvLe_n lvLe_0))))))))) (JJ13 _ h)
      · have h := gT_go hc h
        refine A_aload_n dX11_payOf_97 rfl ?_
        refine A_getf dX11_payOf_98 fw_X11_87 ob11 rfl ?_
        refine A_iload dX11_payOf_101 rfl ?_
        obtain ⟨hg, h⟩ := gV_go h
        refine A_iald dX11_payOf_103 ia89 hg ?_
        refine A_iload_n dX11_payOf_104 rfl ?_
        refine A_icmp_ne dX11_payOf_105 (fun hc => ?_) (fun hc => ?_)
        · have h := gF_go hc h
          refine A_iconst (v := 0) dX11_payOf_118 (by decide) ?_
          exact A_le (lvLe_s (lvLe_s (lvLe_s (lvLe_s (lvLe_s (lvLe_s (lvLe_s (lvLe_s (lvLe_n lvLe_0))))))))) (JJ13 _ h)
        · have h := gT_go hc h
          refine A_aload_n dX11_payOf_108 rfl ?_
          refine A_getf dX11_payOf_109 fw_X11_96 ob11 rfl ?_
          refine A_iload dX11_payOf_112 rfl ?_
          obtain ⟨hg, h⟩ := gV_go h
          refine A_iald dX11_payOf_114 ia92 hg ?_
          refine A_goto dX11_payOf_115 ?_
          exact A_le (lvLe_s (lvLe_s (lvLe_s (lvLe_s (lvLe_s (lvLe_s (lvLe_s (lvLe_s (lvLe_n lvLe_0))))))))) (JJ13 _ h)
def f_X11_payOf (v1 : Int32) (v2 : Int32) (v3 : Int32) (M : Mem) : Option Ret := f_X11_payOf_L12 v1 v2 v3 (0 : Int32) FU (0 : Int32) (0 : Int32) (0 : Int32) M (fun w9 w10 w11 M12 => f_X11_payOf_L75 v1 v2 v3 w9 w10 FU (0 : Int32) (0 : Int32) M12 (fun w16 w17 M18 => gV (2 : Int32) 5 (bI ((w16 * (M18.1 80 (2 : Int32).toNatClampNeg)) / (100 : Int32)) (fun x19 => gV (4 : Int32) 5 (bI (((w10 + w16) * (M18.1 80 (4 : Int32).toNatClampNeg)) / (100 : Int32)) (fun x20 => if v3 = (0 : Int32) then (jn (α := Int32 → Option Ret) (fun (z22 : Int32) => some (z22, M18)) (fun J21 => if x20 ≤ (w9 + x19) then (J21 (w9 + x19)) else (J21 x20))) else (if v3 = (1 : Int32) then (some (w9, M18)) else (if v3 = (2 : Int32) then (some (x19, M18)) else (if v3 = (3 : Int32) then (some (w10, M18)) else (some (w16, M18)))))))))))
set_option maxRecDepth 100000 in
theorem ok_X11_payOf {l : Launch} {g : Cx} {v1 : Int32} {v2 : Int32} {v3 : Int32} {M : Mem} {r : Int32} {Mr : Mem} (h : f_X11_payOf v1 v2 v3 M = some (r, Mr)) : CT l g yX11_payOf cX11_payOf 9 (some .int) 2 49 [.ref (g.1 11), .int v1, .int v2, .int v3] M (PI r Mr) := by
  refine CT_of (lv := [some (.ref (g.1 11)), some (.int v1), some (.int v2), some (.int v3), none, none, none, none, none]) (by decide) rfl (Nat.le_of_ble_eq_true rfl) ?_
  unfold f_X11_payOf at h
  refine A_iconst (v := 0) dX11_payOf_0 (by decide) ?_
  refine A_istore4 dX11_payOf_1 (by decide) rfl ?_
  refine A_iconst (v := 0) dX11_payOf_3 (by decide) ?_
  refine A_istore5 dX11_payOf_4 (by decide) rfl ?_
  refine A_iconst (v := 0) dX11_payOf_6 (by decide) ?_
  refine A_istore6 dX11_payOf_7 (by decide) rfl ?_
  refine A_iconst (v := 0) dX11_payOf_9 (by decide) ?_
  refine A_istore7 dX11_payOf_10 (by decide) rfl ?_
  refine f_X11_payOf_L12_ok _ _ _ _ FU _ _ _ _ _ h (fun w9 w10 w11 M12 h => ?_)
  refine A_iconst (v := 0) dX11_payOf_72 (by decide) ?_
  refine A_istore7 dX11_payOf_73 (by decide) rfl ?_
  refine f_X11_payOf_L75_ok _ _ _ _ _ FU _ _ _ _ h (fun w16 w17 M18 h => ?_)
  refine A_iload dX11_payOf_128 rfl ?_
  refine A_aload_n dX11_payOf_130 rfl ?_
  refine A_getf dX11_payOf_131 fw_X11_60 ob11 rfl ?_
  refine A_iconst (v := 2) dX11_payOf_134 (by decide) ?_
  obtain ⟨hg, h⟩ := gV_go h
  refine A_iald dX11_payOf_135 ia80 hg ?_
  refine A_imul dX11_payOf_136 ?_
  refine A_bipush (v := 100) dX11_payOf_137 (by decide) ?_
  refine A_idiv dX11_payOf_139 (by decide) ?_
  refine A_istore7 dX11_payOf_140 (by decide) rfl (bI_go h (G := fun z => AT l g RX11 cX11_payOf 9 (some .int) (rmM 2 49) (PI r Mr) 142 [some (.ref (g.1 11)), some (.int v1), some (.int v2), some (.int v3), some (.int w9), some (.int w10), some (.int w16), some (.int z), none] [] M18) (fun x19 h => ?_))
  refine A_iload dX11_payOf_142 rfl ?_
  refine A_iload dX11_payOf_144 rfl ?_
  refine A_iadd dX11_payOf_146 ?_
  refine A_aload_n dX11_payOf_147 rfl ?_
  refine A_getf dX11_payOf_148 fw_X11_60 ob11 rfl ?_
  refine A_iconst (v := 4) dX11_payOf_151 (by decide) ?_
  obtain ⟨hg, h⟩ := gV_go h
  refine A_iald dX11_payOf_152 ia80 hg ?_
  refine A_imul dX11_payOf_153 ?_
  refine A_bipush (v := 100) dX11_payOf_154 (by decide) ?_
  refine A_idiv dX11_payOf_156 (by decide) ?_
  refine A_istore8 dX11_payOf_157 (by decide) rfl (bI_go h (G := fun z => AT l g RX11 cX11_payOf 9 (some .int) (rmM 2 49) (PI r Mr) 159 [some (.ref (g.1 11)), some (.int v1), some (.int v2), some (.int v3), some (.int w9), some (.int w10), some (.int w16), some (.int x19), some (.int z)] [] M18) (fun x20 h => ?_))
  refine A_iload_n dX11_payOf_159 rfl ?_
  by_cases hc0 : v3 = (0 : Int32)
  · have h := gT_go hc0 h
    refine A_tsIn (k0 := 0) dX11_payOf_160 (by rw [hc0]; decide) rfl ?_
    refine A_iload dX11_payOf_192 rfl ?_
    refine A_iload dX11_payOf_194 rfl ?_
    refine A_iadd dX11_payOf_196 ?_
    refine A_iload dX11_payOf_197 rfl ?_
    obtain ⟨J21, hJ21, h⟩ := jn_go h
    have JJ21 : ∀ (z22 : Int32), J21 z22 = some (r, Mr) → AT l g RX11 cX11_payOf 9 (some .int) (rmM 2 49) (PI r Mr) 212 [some (.ref (g.1 11)), some (.int v1), some (.int v2), some (.int v3), some (.int w9), some (.int w10), some (.int w16), some (.int x19), some (.int x20)] [.int z22] M18 := by
      intro z22 h
      rw [hJ21] at h
      exact A_iret dX11_payOf_212 (pI_go h)
    refine A_icmp_ge dX11_payOf_199 (fun hc => ?_) (fun hc => ?_)
    · have h := gT_go hc h
      refine A_iload dX11_payOf_207 rfl ?_
      refine A_iload dX11_payOf_209 rfl ?_
      refine A_iadd dX11_payOf_211 ?_
      exact A_le (lvLe_s (lvLe_s (lvLe_s (lvLe_s (lvLe_s (lvLe_s (lvLe_s (lvLe_s (lvLe_s lvLe_0))))))))) (JJ21 _ h)
    · have h := gF_go hc h
      refine A_iload dX11_payOf_202 rfl ?_
      refine A_goto dX11_payOf_204 ?_
      exact A_le (lvLe_s (lvLe_s (lvLe_s (lvLe_s (lvLe_s (lvLe_s (lvLe_s (lvLe_s (lvLe_s lvLe_0))))))))) (JJ21 _ h)
  have h := gF_go hc0 h
  by_cases hc1 : v3 = (1 : Int32)
  · have h := gT_go hc1 h
    refine A_tsIn (k0 := 1) dX11_payOf_160 (by rw [hc1]; decide) rfl ?_
    refine A_iload dX11_payOf_213 rfl ?_
    exact A_iret dX11_payOf_215 (pI_go h)
  have h := gF_go hc1 h
  by_cases hc2 : v3 = (2 : Int32)
  · have h := gT_go hc2 h
    refine A_tsIn (k0 := 2) dX11_payOf_160 (by rw [hc2]; decide) rfl ?_
    refine A_iload dX11_payOf_216 rfl ?_
    exact A_iret dX11_payOf_218 (pI_go h)
  have h := gF_go hc2 h
  by_cases hc3 : v3 = (3 : Int32)
  · have h := gT_go hc3 h
    refine A_tsIn (k0 := 3) dX11_payOf_160 (by rw [hc3]; decide) rfl ?_
    refine A_iload dX11_payOf_219 rfl ?_
    exact A_iret dX11_payOf_221 (pI_go h)
  have h := gF_go hc3 h
  refine A_tsOut dX11_payOf_160 (tsw_out (fun k h1 h2 => ?_)) ?_
  · rcases (show k = 0 ∨ k = 1 ∨ k = 2 ∨ k = 3 by omega) with rfl | rfl | rfl | rfl
    · exact hc0
    · exact hc1
    · exact hc2
    · exact hc3
  · refine A_iload dX11_payOf_222 rfl ?_
    exact A_iret dX11_payOf_224 (pI_go h)
-- BenchTimesModel.pay
theorem dX11_pay_0 : di cX11_pay 0 (.iload_n 1) 1 1 := ⟨by decide +kernel, rfl⟩
theorem dX11_pay_1 : di cX11_pay 1 (.invokestatic 217) 3 4 := ⟨by decide +kernel, rfl⟩
theorem dX11_pay_4 : dj cX11_pay 4 (.ifCond .eq) 7 23 := ⟨19, by decide +kernel, rfl, rfl⟩
theorem dX11_pay_7 : di cX11_pay 7 (.iload_n 2) 1 8 := ⟨by decide +kernel, rfl⟩
theorem dX11_pay_8 : di cX11_pay 8 (.invokestatic 192) 3 11 := ⟨by decide +kernel, rfl⟩
theorem dX11_pay_11 : dj cX11_pay 11 (.ifCond .eq) 14 23 := ⟨12, by decide +kernel, rfl, rfl⟩
theorem dX11_pay_14 : di cX11_pay 14 (.iload_n 3) 1 15 := ⟨by decide +kernel, rfl⟩
theorem dX11_pay_15 : di cX11_pay 15 (.iconst 0) 1 16 := ⟨by decide +kernel, rfl⟩
theorem dX11_pay_16 : di cX11_pay 16 (.iconst 4) 1 17 := ⟨by decide +kernel, rfl⟩
theorem dX11_pay_17 : di cX11_pay 17 (.invokestatic 133) 3 20 := ⟨by decide +kernel, rfl⟩
theorem dX11_pay_20 : dj cX11_pay 20 (.ifCond .ne) 23 29 := ⟨9, by decide +kernel, rfl, rfl⟩
theorem dX11_pay_23 : di cX11_pay 23 (.aload_n 0) 1 24 := ⟨by decide +kernel, rfl⟩
theorem dX11_pay_24 : di cX11_pay 24 (.iconst 1) 1 25 := ⟨by decide +kernel, rfl⟩
theorem dX11_pay_25 : di cX11_pay 25 (.invokevirtual 137) 3 28 := ⟨by decide +kernel, rfl⟩
theorem dX11_pay_28 : di cX11_pay 28 (.ireturn) 1 29 := ⟨by decide +kernel, rfl⟩
theorem dX11_pay_29 : di cX11_pay 29 (.aload_n 0) 1 30 := ⟨by decide +kernel, rfl⟩
theorem dX11_pay_30 : di cX11_pay 30 (.iload_n 1) 1 31 := ⟨by decide +kernel, rfl⟩
theorem dX11_pay_31 : di cX11_pay 31 (.iload_n 2) 1 32 := ⟨by decide +kernel, rfl⟩
theorem dX11_pay_32 : di cX11_pay 32 (.iload_n 3) 1 33 := ⟨by decide +kernel, rfl⟩
theorem dX11_pay_33 : di cX11_pay 33 (.invokevirtual 230) 3 36 := ⟨by decide +kernel, rfl⟩
theorem dX11_pay_36 : di cX11_pay 36 (.ireturn) 1 37 := ⟨by decide +kernel, rfl⟩
def f_X11_pay (v1 : Int32) (v2 : Int32) (v3 : Int32) (M : Mem) : Option Ret := bE (f_X11_isWorker v1 M) (fun r2 M1 => if r2 = 0 then (bE (f_X11_finding (1 : Int32) M1) (fun r4 M3 => some (r4, M3))) else (bE (f_X11_isWeek v2 M1) (fun r6 M5 => if r6 = 0 then (bE (f_X11_finding (1 : Int32) M5) (fun r8 M7 => some (r8, M7))) else (bE (f_X11_isIn v3 (0 : Int32) (4 : Int32) M5) (fun r10 M9 => if r10 = 0 then (bE (f_X11_finding (1 : Int32) M9) (fun r14 M13 => some (r14, M13))) else (bE (f_X11_payOf v1 v2 v3 M9) (fun r12 M11 => some (r12, M11))))))))
set_option maxRecDepth 100000 in
theorem ok_X11_pay {l : Launch} {g : Cx} {v1 : Int32} {v2 : Int32} {v3 : Int32} {M : Mem} {r : Int32} {Mr : Mem} (h : f_X11_pay v1 v2 v3 M = some (r, Mr)) : CT l g yX11_pay cX11_pay 4 (some .int) 3 77 [.ref (g.1 11), .int v1, .int v2, .int v3] M (PI r Mr) := by
  refine CT_of (lv := [some (.ref (g.1 11)), some (.int v1), some (.int v2), some (.int v3)]) (by decide) rfl (Nat.le_of_ble_eq_true rfl) ?_
  unfold f_X11_pay at h
  refine A_iload_n dX11_pay_0 rfl ?_
  obtain ⟨r2, M1, h1, h⟩ := bE_go h
  refine A_cSi1 dX11_pay_1 ml_X11_217 mb_X11_isWorker ms_X11_isWorker ⟨Nat.le_of_ble_eq_true rfl, Nat.le_of_ble_eq_true rfl⟩ (Nat.le_of_ble_eq_true rfl) (ok_X11_isWorker h1) ?_
  refine A_if_eq dX11_pay_4 (fun hc => ?_) (fun hc => ?_)
  · have h := gT_go hc h
    refine A_aload_n dX11_pay_23 rfl ?_
    refine A_iconst (v := 1) dX11_pay_24 (by decide) ?_
    obtain ⟨r4, M3, h1, h⟩ := bE_go h
    refine A_cVi1 dX11_pay_25 ml_X11_137 mb_X11_finding mi_X11_finding ob11 rfl rfl ⟨Nat.le_of_ble_eq_true rfl, Nat.le_of_ble_eq_true rfl⟩ (Nat.le_of_ble_eq_true rfl) (ok_X11_finding h1) ?_
    exact A_iret dX11_pay_28 (pI_go h)
  · have h := gF_go hc h
    refine A_iload_n dX11_pay_7 rfl ?_
    obtain ⟨r6, M5, h1, h⟩ := bE_go h
    refine A_cSi1 dX11_pay_8 ml_X11_192 mb_X11_isWeek ms_X11_isWeek ⟨Nat.le_of_ble_eq_true rfl, Nat.le_of_ble_eq_true rfl⟩ (Nat.le_of_ble_eq_true rfl) (ok_X11_isWeek h1) ?_
    refine A_if_eq dX11_pay_11 (fun hc => ?_) (fun hc => ?_)
    · have h := gT_go hc h
      refine A_aload_n dX11_pay_23 rfl ?_
      refine A_iconst (v := 1) dX11_pay_24 (by decide) ?_
      obtain ⟨r8, M7, h1, h⟩ := bE_go h
      refine A_cVi1 dX11_pay_25 ml_X11_137 mb_X11_finding mi_X11_finding ob11 rfl rfl ⟨Nat.le_of_ble_eq_true rfl, Nat.le_of_ble_eq_true rfl⟩ (Nat.le_of_ble_eq_true rfl) (ok_X11_finding h1) ?_
      exact A_iret dX11_pay_28 (pI_go h)
    · have h := gF_go hc h
      refine A_iload_n dX11_pay_14 rfl ?_
      refine A_iconst (v := 0) dX11_pay_15 (by decide) ?_
      refine A_iconst (v := 4) dX11_pay_16 (by decide) ?_
      obtain ⟨r10, M9, h1, h⟩ := bE_go h
      refine A_cSi3 dX11_pay_17 ml_X11_133 mb_X11_isIn ms_X11_isIn ⟨Nat.le_of_ble_eq_true rfl, Nat.le_of_ble_eq_true rfl⟩ (Nat.le_of_ble_eq_true rfl) (ok_X11_isIn h1) ?_
      refine A_if_ne dX11_pay_20 (fun hc => ?_) (fun hc => ?_)
      · have h := gF_go hc h
        refine A_aload_n dX11_pay_29 rfl ?_
        refine A_iload_n dX11_pay_30 rfl ?_
        refine A_iload_n dX11_pay_31 rfl ?_
        refine A_iload_n dX11_pay_32 rfl ?_
        obtain ⟨r12, M11, h1, h⟩ := bE_go h
        refine A_cVi3 dX11_pay_33 ml_X11_230 mb_X11_payOf mi_X11_payOf ob11 rfl rfl ⟨Nat.le_of_ble_eq_true rfl, Nat.le_of_ble_eq_true rfl⟩ (Nat.le_of_ble_eq_true rfl) (ok_X11_payOf h1) ?_
        exact A_iret dX11_pay_36 (pI_go h)
      · have h := gT_go hc h
        refine A_aload_n dX11_pay_23 rfl ?_
        refine A_iconst (v := 1) dX11_pay_24 (by decide) ?_
        obtain ⟨r14, M13, h1, h⟩ := bE_go h
        refine A_cVi1 dX11_pay_25 ml_X11_137 mb_X11_finding mi_X11_finding ob11 rfl rfl ⟨Nat.le_of_ble_eq_true rfl, Nat.le_of_ble_eq_true rfl⟩ (Nat.le_of_ble_eq_true rfl) (ok_X11_finding h1) ?_
        exact A_iret dX11_pay_28 (pI_go h)
-- BenchTimesModel.cause
theorem dX11_cause_0 : di cX11_cause 0 (.iload_n 1) 1 1 := ⟨by decide +kernel, rfl⟩
theorem dX11_cause_1 : di cX11_cause 1 (.iconst 0) 1 2 := ⟨by decide +kernel, rfl⟩
theorem dX11_cause_2 : di cX11_cause 2 (.iconst 3) 1 3 := ⟨by decide +kernel, rfl⟩
theorem dX11_cause_3 : di cX11_cause 3 (.invokestatic 133) 3 6 := ⟨by decide +kernel, rfl⟩
theorem dX11_cause_6 : dj cX11_cause 6 (.ifCond .ne) 9 15 := ⟨9, by decide +kernel, rfl, rfl⟩
theorem dX11_cause_9 : di cX11_cause 9 (.aload_n 0) 1 10 := ⟨by decide +kernel, rfl⟩
theorem dX11_cause_10 : di cX11_cause 10 (.iconst 1) 1 11 := ⟨by decide +kernel, rfl⟩
theorem dX11_cause_11 : di cX11_cause 11 (.invokevirtual 137) 3 14 := ⟨by decide +kernel, rfl⟩
theorem dX11_cause_14 : di cX11_cause 14 (.ireturn) 1 15 := ⟨by decide +kernel, rfl⟩
theorem dX11_cause_15 : di cX11_cause 15 (.iconst 0) 1 16 := ⟨by decide +kernel, rfl⟩
theorem dX11_cause_16 : di cX11_cause 16 (.istore_n 2) 1 17 := ⟨by decide +kernel, rfl⟩
theorem dX11_cause_17 : di cX11_cause 17 (.iconst 0) 1 18 := ⟨by decide +kernel, rfl⟩
theorem dX11_cause_18 : di cX11_cause 18 (.istore_n 3) 1 19 := ⟨by decide +kernel, rfl⟩
theorem dX11_cause_19 : di cX11_cause 19 (.iload_n 3) 1 20 := ⟨by decide +kernel, rfl⟩
theorem dX11_cause_20 : di cX11_cause 20 (.aload_n 0) 1 21 := ⟨by decide +kernel, rfl⟩
theorem dX11_cause_21 : di cX11_cause 21 (.getfield 224) 3 24 := ⟨by decide +kernel, rfl⟩
theorem dX11_cause_24 : dj cX11_cause 24 (.if_icmp .ge) 27 56 := ⟨32, by decide +kernel, rfl, rfl⟩
theorem dX11_cause_27 : di cX11_cause 27 (.iload_n 2) 1 28 := ⟨by decide +kernel, rfl⟩
theorem dX11_cause_28 : di cX11_cause 28 (.aload_n 0) 1 29 := ⟨by decide +kernel, rfl⟩
theorem dX11_cause_29 : di cX11_cause 29 (.getfield 93) 3 32 := ⟨by decide +kernel, rfl⟩
theorem dX11_cause_32 : di cX11_cause 32 (.iload_n 3) 1 33 := ⟨by decide +kernel, rfl⟩
theorem dX11_cause_33 : di cX11_cause 33 (.iaload) 1 34 := ⟨by decide +kernel, rfl⟩
theorem dX11_cause_34 : di cX11_cause 34 (.iload_n 1) 1 35 := ⟨by decide +kernel, rfl⟩
theorem dX11_cause_35 : dj cX11_cause 35 (.if_icmp .ne) 38 47 := ⟨12, by decide +kernel, rfl, rfl⟩
theorem dX11_cause_38 : di cX11_cause 38 (.aload_n 0) 1 39 := ⟨by decide +kernel, rfl⟩
theorem dX11_cause_39 : di cX11_cause 39 (.getfield 96) 3 42 := ⟨by decide +kernel, rfl⟩
theorem dX11_cause_42 : di cX11_cause 42 (.iload_n 3) 1 43 := ⟨by decide +kernel, rfl⟩
theorem dX11_cause_43 : di cX11_cause 43 (.iaload) 1 44 := ⟨by decide +kernel, rfl⟩
theorem dX11_cause_44 : dj cX11_cause 44 .goto 47 48 := ⟨4, by decide +kernel, rfl, rfl⟩
theorem dX11_cause_47 : di cX11_cause 47 (.iconst 0) 1 48 := ⟨by decide +kernel, rfl⟩
theorem dX11_cause_48 : di cX11_cause 48 (.iadd) 1 49 := ⟨by decide +kernel, rfl⟩
theorem dX11_cause_49 : di cX11_cause 49 (.istore_n 2) 1 50 := ⟨by decide +kernel, rfl⟩
theorem dX11_cause_50 : di cX11_cause 50 (.iinc 3 1) 3 53 := ⟨by decide +kernel, rfl⟩
theorem dX11_cause_53 : dj cX11_cause 53 .goto 56 19 := ⟨-34, by decide +kernel, rfl, rfl⟩
theorem dX11_cause_56 : di cX11_cause 56 (.iload_n 2) 1 57 := ⟨by decide +kernel, rfl⟩
theorem dX11_cause_57 : di cX11_cause 57 (.ireturn) 1 58 := ⟨by decide +kernel, rfl⟩
def f_X11_cause_L19 (v1 : Int32) : Nat → Int32 → Int32 → Mem → (Int32 → Int32 → Mem → Option Ret) → Option Ret
  | 0, _, _, _, _ => none
  | k19 + 1, v2, v3, M, K19 => if (M.1 11 33) ≤ v3 then (K19 v2 v3 M) else (gV v3 60 (jn (α := Int32 → Option Ret) (fun (z4 : Int32) => bI (v2 + z4) (fun x5 => f_X11_cause_L19 v1 k19 x5 (v3 + (1 : Int32)) M K19)) (fun J3 => if (M.1 91 v3.toNatClampNeg) = v1 then (gV v3 60 (J3 (M.1 92 v3.toNatClampNeg))) else (J3 (0 : Int32)))))
set_option maxRecDepth 100000 in
theorem f_X11_cause_L19_ok {l : Launch} {g : Cx} (v1 : Int32)  {r : Int32} {Mr : Mem} : ∀ (k : Nat) (v2 : Int32) (v3 : Int32) (M : Mem) (K19 : Int32 → Int32 → Mem → Option Ret), f_X11_cause_L19 v1 k v2 v3 M K19 = some (r, Mr) → (∀ (v2 : Int32) (v3 : Int32) (M : Mem), K19 v2 v3 M = some (r, Mr) → AT l g RX11 cX11_cause 4 (some .int) (rmM 1 22) (PI r Mr) 56 [some (.ref (g.1 11)), some (.int v1), some (.int v2), some (.int v3)] [] M) → AT l g RX11 cX11_cause 4 (some .int) (rmM 1 22) (PI r Mr) 19 [some (.ref (g.1 11)), some (.int v1), some (.int v2), some (.int v3)] [] M
  | 0, v2, v3, M, K19, h, hK19 => by cases h
  | k19 + 1, v2, v3, M, K19, h, hK19 => by
    have ih19 := f_X11_cause_L19_ok (l := l) (g := g) v1 (r := r) (Mr := Mr) k19
    rw [f_X11_cause_L19] at h
    refine A_iload_n dX11_cause_19 rfl ?_
    refine A_aload_n dX11_cause_20 rfl ?_
    refine A_getf dX11_cause_21 fw_X11_224 ob11 rfl ?_
    refine A_icmp_ge dX11_cause_24 (fun hc => ?_) (fun hc => ?_)
    · have h := gT_go hc h
      exact A_le (lvLe_s (lvLe_s (lvLe_s (lvLe_s lvLe_0)))) (hK19 _ _ _ h)
    · have h := gF_go hc h
      refine A_iload_n dX11_cause_27 rfl ?_
      refine A_aload_n dX11_cause_28 rfl ?_
      refine A_getf dX11_cause_29 fw_X11_93 ob11 rfl ?_
      refine A_iload_n dX11_cause_32 rfl ?_
      obtain ⟨hg, h⟩ := gV_go h
      refine A_iald dX11_cause_33 ia91 hg ?_
      refine A_iload_n dX11_cause_34 rfl ?_
      obtain ⟨J3, hJ3, h⟩ := jn_go h
      have JJ3 : ∀ (z4 : Int32), J3 z4 = some (r, Mr) → AT l g RX11 cX11_cause 4 (some .int) (rmM 1 22) (PI r Mr) 48 [some (.ref (g.1 11)), some (.int v1), some (.int v2), some (.int v3)] [.int z4, .int v2] M := by
        intro z4 h
        rw [hJ3] at h
        refine A_iadd dX11_cause_48 ?_
        refine A_istoren2 dX11_cause_49 (by decide) rfl (bI_go h (G := fun z => AT l g RX11 cX11_cause 4 (some .int) (rmM 1 22) (PI r Mr) 50 [some (.ref (g.1 11)), some (.int v1), some (.int z), some (.int v3)] [] M) (fun x5 h => ?_))
        refine A_iinc3 (d := 1) dX11_cause_50 (by decide) (by decide) rfl ?_
        refine A_goto dX11_cause_53 ?_
        exact A_le (lvLe_s (lvLe_s (lvLe_s (lvLe_s lvLe_0)))) (ih19 _ _ _ K19 h hK19)
      refine A_icmp_ne dX11_cause_35 (fun hc => ?_) (fun hc => ?_)
      · have h := gF_go hc h
        refine A_iconst (v := 0) dX11_cause_47 (by decide) ?_
        exact A_le (lvLe_s (lvLe_s (lvLe_s (lvLe_s lvLe_0)))) (JJ3 _ h)
      · have h := gT_go hc h
        refine A_aload_n dX11_cause_38 rfl ?_
        refine A_getf dX11_cause_39 fw_X11_96 ob11 rfl ?_
        refine A_iload_n dX11_cause_42 rfl ?_
        obtain ⟨hg, h⟩ := gV_go h
        refine A_iald dX11_cause_43 ia92 hg ?_
        refine A_goto dX11_cause_44 ?_
        exact A_le (lvLe_s (lvLe_s (lvLe_s (lvLe_s lvLe_0)))) (JJ3 _ h)
def f_X11_cause (v1 : Int32) (M : Mem) : Option Ret := bE (f_X11_isIn v1 (0 : Int32) (3 : Int32) M) (fun r2 M1 => if r2 = 0 then (bE (f_X11_finding (1 : Int32) M1) (fun r10 M9 => some (r10, M9))) else (f_X11_cause_L19 v1 FU (0 : Int32) (0 : Int32) M1 (fun w6 w7 M8 => some (w6, M8))))
set_option maxRecDepth 100000 in
theorem ok_X11_cause {l : Launch} {g : Cx} {v1 : Int32} {M : Mem} {r : Int32} {Mr : Mem} (h : f_X11_cause v1 M = some (r, Mr)) : CT l g yX11_cause cX11_cause 4 (some .int) 1 22 [.ref (g.1 11), .int v1] M (PI r Mr) := by
  refine CT_of (lv := [some (.ref (g.1 11)), some (.int v1), none, none]) (by decide) rfl (Nat.le_of_ble_eq_true rfl) ?_
  unfold f_X11_cause at h
  refine A_iload_n dX11_cause_0 rfl ?_
  refine A_iconst (v := 0) dX11_cause_1 (by decide) ?_
  refine A_iconst (v := 3) dX11_cause_2 (by decide) ?_
  obtain ⟨r2, M1, h1, h⟩ := bE_go h
  refine A_cSi3 dX11_cause_3 ml_X11_133 mb_X11_isIn ms_X11_isIn ⟨Nat.le_of_ble_eq_true rfl, Nat.le_of_ble_eq_true rfl⟩ (Nat.le_of_ble_eq_true rfl) (ok_X11_isIn h1) ?_
  refine A_if_ne dX11_cause_6 (fun hc => ?_) (fun hc => ?_)
  · have h := gF_go hc h
    refine A_iconst (v := 0) dX11_cause_15 (by decide) ?_
    refine A_istoren2 dX11_cause_16 (by decide) rfl ?_
    refine A_iconst (v := 0) dX11_cause_17 (by decide) ?_
    refine A_istoren3 dX11_cause_18 (by decide) rfl ?_
    refine f_X11_cause_L19_ok _ FU _ _ _ _ h (fun w6 w7 M8 h => ?_)
    refine A_iload_n dX11_cause_56 rfl ?_
    exact A_iret dX11_cause_57 (pI_go h)
  · have h := gT_go hc h
    refine A_aload_n dX11_cause_9 rfl ?_
    refine A_iconst (v := 1) dX11_cause_10 (by decide) ?_
    obtain ⟨r10, M9, h1, h⟩ := bE_go h
    refine A_cVi1 dX11_cause_11 ml_X11_137 mb_X11_finding mi_X11_finding ob11 rfl rfl ⟨Nat.le_of_ble_eq_true rfl, Nat.le_of_ble_eq_true rfl⟩ (Nat.le_of_ble_eq_true rfl) (ok_X11_finding h1) ?_
    exact A_iret dX11_cause_14 (pI_go h)
-- BenchTimesModel.pool
theorem dX11_pool_0 : di cX11_pool 0 (.iload_n 1) 1 1 := ⟨by decide +kernel, rfl⟩
theorem dX11_pool_1 : di cX11_pool 1 (.iconst 1) 1 2 := ⟨by decide +kernel, rfl⟩
theorem dX11_pool_2 : di cX11_pool 2 (.sipush 255) 3 5 := ⟨by decide +kernel, rfl⟩
theorem dX11_pool_5 : di cX11_pool 5 (.invokestatic 133) 3 8 := ⟨by decide +kernel, rfl⟩
theorem dX11_pool_8 : dj cX11_pool 8 (.ifCond .eq) 11 33 := ⟨25, by decide +kernel, rfl, rfl⟩
theorem dX11_pool_11 : di cX11_pool 11 (.iload_n 2) 1 12 := ⟨by decide +kernel, rfl⟩
theorem dX11_pool_12 : di cX11_pool 12 (.invokestatic 192) 3 15 := ⟨by decide +kernel, rfl⟩
theorem dX11_pool_15 : dj cX11_pool 15 (.ifCond .eq) 18 33 := ⟨18, by decide +kernel, rfl, rfl⟩
theorem dX11_pool_18 : di cX11_pool 18 (.iload_n 3) 1 19 := ⟨by decide +kernel, rfl⟩
theorem dX11_pool_19 : di cX11_pool 19 (.invokestatic 217) 3 22 := ⟨by decide +kernel, rfl⟩
theorem dX11_pool_22 : dj cX11_pool 22 (.ifCond .eq) 25 33 := ⟨11, by decide +kernel, rfl, rfl⟩
theorem dX11_pool_25 : di cX11_pool 25 (.iload_n 1) 1 26 := ⟨by decide +kernel, rfl⟩
theorem dX11_pool_26 : di cX11_pool 26 (.iload_n 3) 1 27 := ⟨by decide +kernel, rfl⟩
theorem dX11_pool_27 : di cX11_pool 27 (.ishr) 1 28 := ⟨by decide +kernel, rfl⟩
theorem dX11_pool_28 : di cX11_pool 28 (.iconst 1) 1 29 := ⟨by decide +kernel, rfl⟩
theorem dX11_pool_29 : di cX11_pool 29 (.iand) 1 30 := ⟨by decide +kernel, rfl⟩
theorem dX11_pool_30 : dj cX11_pool 30 (.ifCond .ne) 33 39 := ⟨9, by decide +kernel, rfl, rfl⟩
theorem dX11_pool_33 : di cX11_pool 33 (.aload_n 0) 1 34 := ⟨by decide +kernel, rfl⟩
theorem dX11_pool_34 : di cX11_pool 34 (.iconst 1) 1 35 := ⟨by decide +kernel, rfl⟩
theorem dX11_pool_35 : di cX11_pool 35 (.invokevirtual 137) 3 38 := ⟨by decide +kernel, rfl⟩
theorem dX11_pool_38 : di cX11_pool 38 (.ireturn) 1 39 := ⟨by decide +kernel, rfl⟩
theorem dX11_pool_39 : di cX11_pool 39 (.lconst 0) 1 40 := ⟨by decide +kernel, rfl⟩
theorem dX11_pool_40 : di cX11_pool 40 (.lstore 4) 2 42 := ⟨by decide +kernel, rfl⟩
theorem dX11_pool_42 : di cX11_pool 42 (.lconst 0) 1 43 := ⟨by decide +kernel, rfl⟩
theorem dX11_pool_43 : di cX11_pool 43 (.lstore 6) 2 45 := ⟨by decide +kernel, rfl⟩
theorem dX11_pool_45 : di cX11_pool 45 (.iconst 0) 1 46 := ⟨by decide +kernel, rfl⟩
theorem dX11_pool_46 : di cX11_pool 46 (.istore 8) 2 48 := ⟨by decide +kernel, rfl⟩
theorem dX11_pool_48 : di cX11_pool 48 (.iload 8) 2 50 := ⟨by decide +kernel, rfl⟩
theorem dX11_pool_50 : di cX11_pool 50 (.bipush 8) 2 52 := ⟨by decide +kernel, rfl⟩
theorem dX11_pool_52 : dj cX11_pool 52 (.if_icmp .ge) 55 117 := ⟨65, by decide +kernel, rfl, rfl⟩
theorem dX11_pool_55 : di cX11_pool 55 (.lload 4) 2 57 := ⟨by decide +kernel, rfl⟩
theorem dX11_pool_57 : di cX11_pool 57 (.iload_n 1) 1 58 := ⟨by decide +kernel, rfl⟩
theorem dX11_pool_58 : di cX11_pool 58 (.iload 8) 2 60 := ⟨by decide +kernel, rfl⟩
theorem dX11_pool_60 : di cX11_pool 60 (.ishr) 1 61 := ⟨by decide +kernel, rfl⟩
theorem dX11_pool_61 : di cX11_pool 61 (.iconst 1) 1 62 := ⟨by decide +kernel, rfl⟩
theorem dX11_pool_62 : di cX11_pool 62 (.iand) 1 63 := ⟨by decide +kernel, rfl⟩
theorem dX11_pool_63 : di cX11_pool 63 (.iconst 1) 1 64 := ⟨by decide +kernel, rfl⟩
theorem dX11_pool_64 : dj cX11_pool 64 (.if_icmp .ne) 67 79 := ⟨15, by decide +kernel, rfl, rfl⟩
theorem dX11_pool_67 : di cX11_pool 67 (.aload_n 0) 1 68 := ⟨by decide +kernel, rfl⟩
theorem dX11_pool_68 : di cX11_pool 68 (.iload 8) 2 70 := ⟨by decide +kernel, rfl⟩
theorem dX11_pool_70 : di cX11_pool 70 (.iload_n 2) 1 71 := ⟨by decide +kernel, rfl⟩
theorem dX11_pool_71 : di cX11_pool 71 (.iconst 0) 1 72 := ⟨by decide +kernel, rfl⟩
theorem dX11_pool_72 : di cX11_pool 72 (.invokevirtual 230) 3 75 := ⟨by decide +kernel, rfl⟩
theorem dX11_pool_75 : di cX11_pool 75 (.i2l) 1 76 := ⟨by decide +kernel, rfl⟩
theorem dX11_pool_76 : dj cX11_pool 76 .goto 79 80 := ⟨4, by decide +kernel, rfl, rfl⟩
theorem dX11_pool_79 : di cX11_pool 79 (.lconst 0) 1 80 := ⟨by decide +kernel, rfl⟩
theorem dX11_pool_80 : di cX11_pool 80 (.ladd) 1 81 := ⟨by decide +kernel, rfl⟩
theorem dX11_pool_81 : di cX11_pool 81 (.lstore 4) 2 83 := ⟨by decide +kernel, rfl⟩
theorem dX11_pool_83 : di cX11_pool 83 (.lload 6) 2 85 := ⟨by decide +kernel, rfl⟩
theorem dX11_pool_85 : di cX11_pool 85 (.iload_n 1) 1 86 := ⟨by decide +kernel, rfl⟩
theorem dX11_pool_86 : di cX11_pool 86 (.iload 8) 2 88 := ⟨by decide +kernel, rfl⟩
theorem dX11_pool_88 : di cX11_pool 88 (.ishr) 1 89 := ⟨by decide +kernel, rfl⟩
theorem dX11_pool_89 : di cX11_pool 89 (.iconst 1) 1 90 := ⟨by decide +kernel, rfl⟩
theorem dX11_pool_90 : di cX11_pool 90 (.iand) 1 91 := ⟨by decide +kernel, rfl⟩
theorem dX11_pool_91 : di cX11_pool 91 (.iconst 1) 1 92 := ⟨by decide +kernel, rfl⟩
theorem dX11_pool_92 : dj cX11_pool 92 (.if_icmp .ne) 95 107 := ⟨15, by decide +kernel, rfl, rfl⟩
theorem dX11_pool_95 : di cX11_pool 95 (.aload_n 0) 1 96 := ⟨by decide +kernel, rfl⟩
theorem dX11_pool_96 : di cX11_pool 96 (.iload 8) 2 98 := ⟨by decide +kernel, rfl⟩
theorem dX11_pool_98 : di cX11_pool 98 (.iload_n 2) 1 99 := ⟨by decide +kernel, rfl⟩
theorem dX11_pool_99 : di cX11_pool 99 (.iconst 3) 1 100 := ⟨by decide +kernel, rfl⟩
theorem dX11_pool_100 : di cX11_pool 100 (.invokevirtual 230) 3 103 := ⟨by decide +kernel, rfl⟩
theorem dX11_pool_103 : di cX11_pool 103 (.i2l) 1 104 := ⟨by decide +kernel, rfl⟩
theorem dX11_pool_104 : dj cX11_pool 104 .goto 107 108 := ⟨4, by decide +kernel, rfl, rfl⟩
theorem dX11_pool_107 : di cX11_pool 107 (.lconst 0) 1 108 := ⟨by decide +kernel, rfl⟩
theorem dX11_pool_108 : di cX11_pool 108 (.ladd) 1 109 := ⟨by decide +kernel, rfl⟩
theorem dX11_pool_109 : di cX11_pool 109 (.lstore 6) 2 111 := ⟨by decide +kernel, rfl⟩
theorem dX11_pool_111 : di cX11_pool 111 (.iinc 8 1) 3 114 := ⟨by decide +kernel, rfl⟩
theorem dX11_pool_114 : dj cX11_pool 114 .goto 117 48 := ⟨-66, by decide +kernel, rfl, rfl⟩
theorem dX11_pool_117 : di cX11_pool 117 (.lload 6) 2 119 := ⟨by decide +kernel, rfl⟩
theorem dX11_pool_119 : di cX11_pool 119 (.lconst 0) 1 120 := ⟨by decide +kernel, rfl⟩
theorem dX11_pool_120 : di cX11_pool 120 (.lcmp) 1 121 := ⟨by decide +kernel, rfl⟩
theorem dX11_pool_121 : dj cX11_pool 121 (.ifCond .ne) 124 130 := ⟨9, by decide +kernel, rfl, rfl⟩
theorem dX11_pool_124 : di cX11_pool 124 (.aload_n 0) 1 125 := ⟨by decide +kernel, rfl⟩
theorem dX11_pool_125 : di cX11_pool 125 (.iconst 2) 1 126 := ⟨by decide +kernel, rfl⟩
theorem dX11_pool_126 : di cX11_pool 126 (.invokevirtual 137) 3 129 := ⟨by decide +kernel, rfl⟩
theorem dX11_pool_129 : di cX11_pool 129 (.ireturn) 1 130 := ⟨by decide +kernel, rfl⟩
theorem dX11_pool_130 : di cX11_pool 130 (.lload 4) 2 132 := ⟨by decide +kernel, rfl⟩
theorem dX11_pool_132 : di cX11_pool 132 (.lstore 8) 2 134 := ⟨by decide +kernel, rfl⟩
theorem dX11_pool_134 : di cX11_pool 134 (.lconst 0) 1 135 := ⟨by decide +kernel, rfl⟩
theorem dX11_pool_135 : di cX11_pool 135 (.lstore 10) 2 137 := ⟨by decide +kernel, rfl⟩
theorem dX11_pool_137 : di cX11_pool 137 (.iconst 0) 1 138 := ⟨by decide +kernel, rfl⟩
theorem dX11_pool_138 : di cX11_pool 138 (.istore 12) 2 140 := ⟨by decide +kernel, rfl⟩
theorem dX11_pool_140 : di cX11_pool 140 (.iconst 0) 1 141 := ⟨by decide +kernel, rfl⟩
theorem dX11_pool_141 : di cX11_pool 141 (.istore 13) 2 143 := ⟨by decide +kernel, rfl⟩
theorem dX11_pool_143 : di cX11_pool 143 (.iload 13) 2 145 := ⟨by decide +kernel, rfl⟩
theorem dX11_pool_145 : di cX11_pool 145 (.bipush 8) 2 147 := ⟨by decide +kernel, rfl⟩
theorem dX11_pool_147 : dj cX11_pool 147 (.if_icmp .ge) 150 238 := ⟨91, by decide +kernel, rfl, rfl⟩
theorem dX11_pool_150 : di cX11_pool 150 (.iload_n 1) 1 151 := ⟨by decide +kernel, rfl⟩
theorem dX11_pool_151 : di cX11_pool 151 (.iload 13) 2 153 := ⟨by decide +kernel, rfl⟩
theorem dX11_pool_153 : di cX11_pool 153 (.ishr) 1 154 := ⟨by decide +kernel, rfl⟩
theorem dX11_pool_154 : di cX11_pool 154 (.iconst 1) 1 155 := ⟨by decide +kernel, rfl⟩
theorem dX11_pool_155 : di cX11_pool 155 (.iand) 1 156 := ⟨by decide +kernel, rfl⟩
theorem dX11_pool_156 : di cX11_pool 156 (.iconst 1) 1 157 := ⟨by decide +kernel, rfl⟩
theorem dX11_pool_157 : dj cX11_pool 157 (.if_icmp .ne) 160 172 := ⟨15, by decide +kernel, rfl, rfl⟩
theorem dX11_pool_160 : di cX11_pool 160 (.aload_n 0) 1 161 := ⟨by decide +kernel, rfl⟩
theorem dX11_pool_161 : di cX11_pool 161 (.iload 13) 2 163 := ⟨by decide +kernel, rfl⟩
theorem dX11_pool_163 : di cX11_pool 163 (.iload_n 2) 1 164 := ⟨by decide +kernel, rfl⟩
theorem dX11_pool_164 : di cX11_pool 164 (.iconst 3) 1 165 := ⟨by decide +kernel, rfl⟩
theorem dX11_pool_165 : di cX11_pool 165 (.invokevirtual 230) 3 168 := ⟨by decide +kernel, rfl⟩
theorem dX11_pool_168 : di cX11_pool 168 (.i2l) 1 169 := ⟨by decide +kernel, rfl⟩
theorem dX11_pool_169 : dj cX11_pool 169 .goto 172 173 := ⟨4, by decide +kernel, rfl, rfl⟩
theorem dX11_pool_172 : di cX11_pool 172 (.lconst 0) 1 173 := ⟨by decide +kernel, rfl⟩
theorem dX11_pool_173 : di cX11_pool 173 (.lstore 14) 2 175 := ⟨by decide +kernel, rfl⟩
theorem dX11_pool_175 : di cX11_pool 175 (.lload 8) 2 177 := ⟨by decide +kernel, rfl⟩
theorem dX11_pool_177 : di cX11_pool 177 (.lload 4) 2 179 := ⟨by decide +kernel, rfl⟩
theorem dX11_pool_179 : di cX11_pool 179 (.lload 14) 2 181 := ⟨by decide +kernel, rfl⟩
theorem dX11_pool_181 : di cX11_pool 181 (.lmul) 1 182 := ⟨by decide +kernel, rfl⟩
theorem dX11_pool_182 : di cX11_pool 182 (.lload 6) 2 184 := ⟨by decide +kernel, rfl⟩
theorem dX11_pool_184 : di cX11_pool 184 (.ldiv) 1 185 := ⟨by decide +kernel, rfl⟩
theorem dX11_pool_185 : di cX11_pool 185 (.lsub) 1 186 := ⟨by decide +kernel, rfl⟩
theorem dX11_pool_186 : di cX11_pool 186 (.lstore 8) 2 188 := ⟨by decide +kernel, rfl⟩
theorem dX11_pool_188 : di cX11_pool 188 (.iload 13) 2 190 := ⟨by decide +kernel, rfl⟩
theorem dX11_pool_190 : di cX11_pool 190 (.iload_n 3) 1 191 := ⟨by decide +kernel, rfl⟩
theorem dX11_pool_191 : dj cX11_pool 191 (.if_icmp .ne) 194 205 := ⟨14, by decide +kernel, rfl, rfl⟩
theorem dX11_pool_194 : di cX11_pool 194 (.lload 4) 2 196 := ⟨by decide +kernel, rfl⟩
theorem dX11_pool_196 : di cX11_pool 196 (.lload 14) 2 198 := ⟨by decide +kernel, rfl⟩
theorem dX11_pool_198 : di cX11_pool 198 (.lmul) 1 199 := ⟨by decide +kernel, rfl⟩
theorem dX11_pool_199 : di cX11_pool 199 (.lload 6) 2 201 := ⟨by decide +kernel, rfl⟩
theorem dX11_pool_201 : di cX11_pool 201 (.ldiv) 1 202 := ⟨by decide +kernel, rfl⟩
theorem dX11_pool_202 : dj cX11_pool 202 .goto 205 207 := ⟨5, by decide +kernel, rfl, rfl⟩
theorem dX11_pool_205 : di cX11_pool 205 (.lload 10) 2 207 := ⟨by decide +kernel, rfl⟩
theorem dX11_pool_207 : di cX11_pool 207 (.lstore 10) 2 209 := ⟨by decide +kernel, rfl⟩
theorem dX11_pool_209 : di cX11_pool 209 (.iload 12) 2 211 := ⟨by decide +kernel, rfl⟩
theorem dX11_pool_211 : di cX11_pool 211 (.iload 13) 2 213 := ⟨by decide +kernel, rfl⟩
theorem dX11_pool_213 : di cX11_pool 213 (.iload_n 3) 1 214 := ⟨by decide +kernel, rfl⟩
theorem dX11_pool_214 : dj cX11_pool 214 (.if_icmp .ge) 217 228 := ⟨14, by decide +kernel, rfl, rfl⟩
theorem dX11_pool_217 : di cX11_pool 217 (.lload 14) 2 219 := ⟨by decide +kernel, rfl⟩
theorem dX11_pool_219 : di cX11_pool 219 (.lconst 0) 1 220 := ⟨by decide +kernel, rfl⟩
theorem dX11_pool_220 : di cX11_pool 220 (.lcmp) 1 221 := ⟨by decide +kernel, rfl⟩
theorem dX11_pool_221 : dj cX11_pool 221 (.ifCond .le) 224 228 := ⟨7, by decide +kernel, rfl, rfl⟩
theorem dX11_pool_224 : di cX11_pool 224 (.iconst 1) 1 225 := ⟨by decide +kernel, rfl⟩
theorem dX11_pool_225 : dj cX11_pool 225 .goto 228 229 := ⟨4, by decide +kernel, rfl, rfl⟩
theorem dX11_pool_228 : di cX11_pool 228 (.iconst 0) 1 229 := ⟨by decide +kernel, rfl⟩
theorem dX11_pool_229 : di cX11_pool 229 (.iadd) 1 230 := ⟨by decide +kernel, rfl⟩
theorem dX11_pool_230 : di cX11_pool 230 (.istore 12) 2 232 := ⟨by decide +kernel, rfl⟩
theorem dX11_pool_232 : di cX11_pool 232 (.iinc 13 1) 3 235 := ⟨by decide +kernel, rfl⟩
theorem dX11_pool_235 : dj cX11_pool 235 .goto 238 143 := ⟨-92, by decide +kernel, rfl, rfl⟩
theorem dX11_pool_238 : di cX11_pool 238 (.lload 10) 2 240 := ⟨by decide +kernel, rfl⟩
theorem dX11_pool_240 : di cX11_pool 240 (.l2i) 1 241 := ⟨by decide +kernel, rfl⟩
theorem dX11_pool_241 : di cX11_pool 241 (.aload_n 0) 1 242 := ⟨by decide +kernel, rfl⟩
theorem dX11_pool_242 : di cX11_pool 242 (.iload_n 3) 1 243 := ⟨by decide +kernel, rfl⟩
theorem dX11_pool_243 : di cX11_pool 243 (.iload_n 2) 1 244 := ⟨by decide +kernel, rfl⟩
theorem dX11_pool_244 : di cX11_pool 244 (.iconst 3) 1 245 := ⟨by decide +kernel, rfl⟩
theorem dX11_pool_245 : di cX11_pool 245 (.invokevirtual 230) 3 248 := ⟨by decide +kernel, rfl⟩
theorem dX11_pool_248 : dj cX11_pool 248 (.ifCond .le) 251 264 := ⟨16, by decide +kernel, rfl, rfl⟩
theorem dX11_pool_251 : di cX11_pool 251 (.lload 8) 2 253 := ⟨by decide +kernel, rfl⟩
theorem dX11_pool_253 : di cX11_pool 253 (.iload 12) 2 255 := ⟨by decide +kernel, rfl⟩
theorem dX11_pool_255 : di cX11_pool 255 (.i2l) 1 256 := ⟨by decide +kernel, rfl⟩
theorem dX11_pool_256 : di cX11_pool 256 (.lcmp) 1 257 := ⟨by decide +kernel, rfl⟩
theorem dX11_pool_257 : dj cX11_pool 257 (.ifCond .le) 260 264 := ⟨7, by decide +kernel, rfl, rfl⟩
theorem dX11_pool_260 : di cX11_pool 260 (.iconst 1) 1 261 := ⟨by decide +kernel, rfl⟩
theorem dX11_pool_261 : dj cX11_pool 261 .goto 264 265 := ⟨4, by decide +kernel, rfl, rfl⟩
theorem dX11_pool_264 : di cX11_pool 264 (.iconst 0) 1 265 := ⟨by decide +kernel, rfl⟩
theorem dX11_pool_265 : di cX11_pool 265 (.iadd) 1 266 := ⟨by decide +kernel, rfl⟩
theorem dX11_pool_266 : di cX11_pool 266 (.ireturn) 1 267 := ⟨by decide +kernel, rfl⟩
def f_X11_pool_L48 (v1 : Int32) (v2 : Int32) (v3 : Int32) : Nat → Int64 → Int64 → Int32 → Mem → (Int64 → Int64 → Int32 → Mem → Option Ret) → Option Ret
  | 0, _, _, _, _, _ => none
  | k48 + 1, v4, v6, v8, M, K48 => if (8 : Int32) ≤ v8 then (K48 v4 v6 v8 M) else (jn (α := Int64 → Mem → Option Ret) (fun (z14 : Int64) (M15 : Mem) => bI (v4 + z14) (fun x16 => jn (α := Int64 → Mem → Option Ret) (fun (z18 : Int64) (M19 : Mem) => bI (v6 + z18) (fun x20 => f_X11_pool_L48 v1 v2 v3 k48 x16 x20 (v8 + (1 : Int32)) M19 K48)) (fun J17 => if ((v1 >>> (v8 &&& 31)) &&& (1 : Int32)) = (1 : Int32) then (bE (f_X11_payOf v8 v2 (3 : Int32) M15) (fun r22 M21 => J17 (r22.toInt64) M21)) else (J17 (0 : Int64) M15)))) (fun J13 => if ((v1 >>> (v8 &&& 31)) &&& (1 : Int32)) = (1 : Int32) then (bE (f_X11_payOf v8 v2 (0 : Int32) M) (fun r24 M23 => J13 (r24.toInt64) M23)) else (J13 (0 : Int64) M)))
set_option maxRecDepth 100000 in
theorem f_X11_pool_L48_ok {l : Launch} {g : Cx} (v1 : Int32) (v2 : Int32) (v3 : Int32)  {r : Int32} {Mr : Mem} : ∀ (k : Nat) (v4 : Int64) (v6 : Int64) (v8 : Int32) (M : Mem) (K48 : Int64 → Int64 → Int32 → Mem → Option Ret), f_X11_pool_L48 v1 v2 v3 k v4 v6 v8 M K48 = some (r, Mr) → (∀ (v4 : Int64) (v6 : Int64) (v8 : Int32) (M : Mem), K48 v4 v6 v8 M = some (r, Mr) → AT l g RX11 cX11_pool 16 (some .int) (rmM 3 77) (PI r Mr) 117 [some (.ref (g.1 11)), some (.int v1), some (.int v2), some (.int v3), some (.long v4), none, some (.long v6), none, some (.int v8), none, none, none, none, none, none, none] [] M) → AT l g RX11 cX11_pool 16 (some .int) (rmM 3 77) (PI r Mr) 48 [some (.ref (g.1 11)), some (.int v1), some (.int v2), some (.int v3), some (.long v4), none, some (.long v6), none, some (.int v8), none, none, none, none, none, none, none] [] M
  | 0, v4, v6, v8, M, K48, h, hK48 => by cases h
  | k48 + 1, v4, v6, v8, M, K48, h, hK48 => by
    have ih48 := f_X11_pool_L48_ok (l := l) (g := g) v1 v2 v3 (r := r) (Mr := Mr) k48
    rw [f_X11_pool_L48] at h
    refine A_iload dX11_pool_48 rfl ?_
    refine A_bipush (v := 8) dX11_pool_50 (by decide) ?_
    refine A_icmp_ge dX11_pool_52 (fun hc => ?_) (fun hc => ?_)
    · have h := gT_go hc h
      exact A_le (lvLe_s (lvLe_s (lvLe_s (lvLe_s (lvLe_s (lvLe_n (lvLe_s (lvLe_n (lvLe_s (lvLe_n (lvLe_n (lvLe_n (lvLe_n (lvLe_n (lvLe_n (lvLe_n lvLe_0)))))))))))))))) (hK48 _ _ _ _ h)
    · have h := gF_go hc h
      refine A_lload dX11_pool_55 rfl ?_
      refine A_iload_n dX11_pool_57 rfl ?_
      refine A_iload dX11_pool_58 rfl ?_
      refine A_ishr dX11_pool_60 ?_
      refine A_iconst (v := 1) dX11_pool_61 (by decide) ?_
      refine A_iand dX11_pool_62 ?_
      refine A_iconst (v := 1) dX11_pool_63 (by decide) ?_
      obtain ⟨J13, hJ13, h⟩ := jn_go h
      have JJ13 : ∀ (z14 : Int64) (M15 : Mem), J13 z14 M15 = some (r, Mr) → AT l g RX11 cX11_pool 16 (some .int) (rmM 3 77) (PI r Mr) 80 [some (.ref (g.1 11)), some (.int v1), some (.int v2), some (.int v3), some (.long v4), none, some (.long v6), none, some (.int v8), none, none, none, none, none, none, none] [.long z14, .long v4] M15 := by
        intro z14 M15 h
        rw [hJ13] at h
        refine A_ladd dX11_pool_80 ?_
        refine A_lstore4 dX11_pool_81 (by decide) rfl (bI_go h (G := fun z => AT l g RX11 cX11_pool 16 (some .int) (rmM 3 77) (PI r Mr) 83 [some (.ref (g.1 11)), some (.int v1), some (.int v2), some (.int v3), some (.long z), none, some (.long v6), none, some (.int v8), none, none, none, none, none, none, none] [] M15) (fun x16 h => ?_))
        refine A_lload dX11_pool_83 rfl ?_
        refine A_iload_n dX11_pool_85 rfl ?_
        refine A_iload dX11_pool_86 rfl ?_
        refine A_ishr dX11_pool_88 ?_
        refine A_iconst (v := 1) dX11_pool_89 (by decide) ?_
        refine A_iand dX11_pool_90 ?_
        refine A_iconst (v := 1) dX11_pool_91 (by decide) ?_
        obtain ⟨J17, hJ17, h⟩ := jn_go h
        have JJ17 : ∀ (z18 : Int64) (M19 : Mem), J17 z18 M19 = some (r, Mr) → AT l g RX11 cX11_pool 16 (some .int) (rmM 3 77) (PI r Mr) 108 [some (.ref (g.1 11)), some (.int v1), some (.int v2), some (.int v3), some (.long x16), none, some (.long v6), none, some (.int v8), none, none, none, none, none, none, none] [.long z18, .long v6] M19 := by
          intro z18 M19 h
          rw [hJ17] at h
          refine A_ladd dX11_pool_108 ?_
          refine A_lstore6 dX11_pool_109 (by decide) rfl (bI_go h (G := fun z => AT l g RX11 cX11_pool 16 (some .int) (rmM 3 77) (PI r Mr) 111 [some (.ref (g.1 11)), some (.int v1), some (.int v2), some (.int v3), some (.long x16), none, some (.long z), none, some (.int v8), none, none, none, none, none, none, none] [] M19) (fun x20 h => ?_))
          refine A_iinc8 (d := 1) dX11_pool_111 (by decide) (by decide) rfl ?_
          refine A_goto dX11_pool_114 ?_
          exact A_le (lvLe_s (lvLe_s (lvLe_s (lvLe_s (lvLe_s (lvLe_n (lvLe_s (lvLe_n (lvLe_s (lvLe_n (lvLe_n (lvLe_n (lvLe_n (lvLe_n (lvLe_n (lvLe_n lvLe_0)))))))))))))))) (ih48 _ _ _ _ K48 h hK48)
        refine A_icmp_ne dX11_pool_92 (fun hc => ?_) (fun hc => ?_)
        · have h := gF_go hc h
          refine A_lconst (v := 0) dX11_pool_107 (by decide) ?_
          exact A_le (lvLe_s (lvLe_s (lvLe_s (lvLe_s (lvLe_s (lvLe_n (lvLe_s (lvLe_n (lvLe_s (lvLe_n (lvLe_n (lvLe_n (lvLe_n (lvLe_n (lvLe_n (lvLe_n lvLe_0)))))))))))))))) (JJ17 _ _ h)
        · have h := gT_go hc h
          refine A_aload_n dX11_pool_95 rfl ?_
          refine A_iload dX11_pool_96 rfl ?_
          refine A_iload_n dX11_pool_98 rfl ?_
          refine A_iconst (v := 3) dX11_pool_99 (by decide) ?_
          obtain ⟨r22, M21, h1, h⟩ := bE_go h
          refine A_cVi3 dX11_pool_100 ml_X11_230 mb_X11_payOf mi_X11_payOf ob11 rfl rfl ⟨Nat.le_of_ble_eq_true rfl, Nat.le_of_ble_eq_true rfl⟩ (Nat.le_of_ble_eq_true rfl) (ok_X11_payOf h1) ?_
          refine A_i2l dX11_pool_103 ?_
          refine A_goto dX11_pool_104 ?_
          exact A_le (lvLe_s (lvLe_s (lvLe_s (lvLe_s (lvLe_s (lvLe_n (lvLe_s (lvLe_n (lvLe_s (lvLe_n (lvLe_n (lvLe_n (lvLe_n (lvLe_n (lvLe_n (lvLe_n lvLe_0)))))))))))))))) (JJ17 _ _ h)
      refine A_icmp_ne dX11_pool_64 (fun hc => ?_) (fun hc => ?_)
      · have h := gF_go hc h
        refine A_lconst (v := 0) dX11_pool_79 (by decide) ?_
        exact A_le (lvLe_s (lvLe_s (lvLe_s (lvLe_s (lvLe_s (lvLe_n (lvLe_s (lvLe_n (lvLe_s (lvLe_n (lvLe_n (lvLe_n (lvLe_n (lvLe_n (lvLe_n (lvLe_n lvLe_0)))))))))))))))) (JJ13 _ _ h)
      · have h := gT_go hc h
        refine A_aload_n dX11_pool_67 rfl ?_
        refine A_iload dX11_pool_68 rfl ?_
        refine A_iload_n dX11_pool_70 rfl ?_
        refine A_iconst (v := 0) dX11_pool_71 (by decide) ?_
        obtain ⟨r24, M23, h1, h⟩ := bE_go h
        refine A_cVi3 dX11_pool_72 ml_X11_230 mb_X11_payOf mi_X11_payOf ob11 rfl rfl ⟨Nat.le_of_ble_eq_true rfl, Nat.le_of_ble_eq_true rfl⟩ (Nat.le_of_ble_eq_true rfl) (ok_X11_payOf h1) ?_
        refine A_i2l dX11_pool_75 ?_
        refine A_goto dX11_pool_76 ?_
        exact A_le (lvLe_s (lvLe_s (lvLe_s (lvLe_s (lvLe_s (lvLe_n (lvLe_s (lvLe_n (lvLe_s (lvLe_n (lvLe_n (lvLe_n (lvLe_n (lvLe_n (lvLe_n (lvLe_n lvLe_0)))))))))))))))) (JJ13 _ _ h)
def f_X11_pool_L143 (v1 : Int32) (v2 : Int32) (v3 : Int32) (v4 : Int64) (v6 : Int64) : Nat → Int64 → Int64 → Int32 → Int32 → Mem → (Int64 → Int64 → Int32 → Int32 → Mem → Option Ret) → Option Ret
  | 0, _, _, _, _, _, _ => none
  | k143 + 1, v8, v10, v12, v13, M, K143 => if (8 : Int32) ≤ v13 then (K143 v8 v10 v12 v13 M) else (jn (α := Int64 → Mem → Option Ret) (fun (z30 : Int64) (M31 : Mem) => gNL v6 (bI (v8 - ((v4 * z30) / v6)) (fun x32 => jn (α := Int64 → Option Ret) (fun (z34 : Int64) => jn (α := Int32 → Option Ret) (fun (z36 : Int32) => bI (v12 + z36) (fun x37 => f_X11_pool_L143 v1 v2 v3 v4 v6 k143 x32 z34 x37 (v13 + (1 : Int32)) M31 K143)) (fun J35 => if v3 ≤ v13 then (J35 (0 : Int32)) else (if (lg_cmp z30 (0 : Int64)) ≤ 0 then (J35 (0 : Int32)) else (J35 (1 : Int32))))) (fun J33 => if v13 = v3 then (gNL v6 (J33 ((v4 * z30) / v6))) else (J33 v10))))) (fun J29 => if ((v1 >>> (v13 &&& 31)) &&& (1 : Int32)) = (1 : Int32) then (bE (f_X11_payOf v13 v2 (3 : Int32) M) (fun r39 M38 => J29 (r39.toInt64) M38)) else (J29 (0 : Int64) M)))
set_option maxRecDepth 100000 in
theorem f_X11_pool_L143_ok {l : Launch} {g : Cx} (v1 : Int32) (v2 : Int32) (v3 : Int32) (v4 : Int64) (v6 : Int64)  {r : Int32} {Mr : Mem} : ∀ (k : Nat) (v8 : Int64) (v10 : Int64) (v12 : Int32) (v13 : Int32) (M : Mem) (K143 : Int64 → Int64 → Int32 → Int32 → Mem → Option Ret), f_X11_pool_L143 v1 v2 v3 v4 v6 k v8 v10 v12 v13 M K143 = some (r, Mr) → (∀ (v8 : Int64) (v10 : Int64) (v12 : Int32) (v13 : Int32) (M : Mem), K143 v8 v10 v12 v13 M = some (r, Mr) → AT l g RX11 cX11_pool 16 (some .int) (rmM 3 77) (PI r Mr) 238 [some (.ref (g.1 11)), some (.int v1), some (.int v2), some (.int v3), some (.long v4), none, some (.long v6), none, some (.long v8), none, some (.long v10), none, some (.int v12), some (.int v13), none, none] [] M) → AT l g RX11 cX11_pool 16 (some .int) (rmM 3 77) (PI r Mr) 143 [some (.ref (g.1 11)), some (.int v1), some (.int v2), some (.int v3), some (.long v4), none, some (.long v6), none, some (.long v8), none, some (.long v10), none, some (.int v12), some (.int v13), none, none] [] M
  | 0, v8, v10, v12, v13, M, K143, h, hK143 => by cases h
  | k143 + 1, v8, v10, v12, v13, M, K143, h, hK143 => by
    have ih143 := f_X11_pool_L143_ok (l := l) (g := g) v1 v2 v3 v4 v6 (r := r) (Mr := Mr) k143
    rw [f_X11_pool_L143] at h
    refine A_iload dX11_pool_143 rfl ?_
    refine A_bipush (v := 8) dX11_pool_145 (by decide) ?_
    refine A_icmp_ge dX11_pool_147 (fun hc => ?_) (fun hc => ?_)
    · have h := gT_go hc h
      exact A_le (lvLe_s (lvLe_s (lvLe_s (lvLe_s (lvLe_s (lvLe_n (lvLe_s (lvLe_n (lvLe_s (lvLe_n (lvLe_s (lvLe_n (lvLe_s (lvLe_s (lvLe_n (lvLe_n lvLe_0)))))))))))))))) (hK143 _ _ _ _ _ h)
    · have h := gF_go hc h
      refine A_iload_n dX11_pool_150 rfl ?_
      refine A_iload dX11_pool_151 rfl ?_
      refine A_ishr dX11_pool_153 ?_
      refine A_iconst (v := 1) dX11_pool_154 (by decide) ?_
      refine A_iand dX11_pool_155 ?_
      refine A_iconst (v := 1) dX11_pool_156 (by decide) ?_
      obtain ⟨J29, hJ29, h⟩ := jn_go h
      have JJ29 : ∀ (z30 : Int64) (M31 : Mem), J29 z30 M31 = some (r, Mr) → AT l g RX11 cX11_pool 16 (some .int) (rmM 3 77) (PI r Mr) 173 [some (.ref (g.1 11)), some (.int v1), some (.int v2), some (.int v3), some (.long v4), none, some (.long v6), none, some (.long v8), none, some (.long v10), none, some (.int v12), some (.int v13), none, none] [.long z30] M31 := by
        intro z30 M31 h
        rw [hJ29] at h
        refine A_lstore14 dX11_pool_173 (by decide) rfl ?_
        refine A_lload dX11_pool_175 rfl ?_
        refine A_lload dX11_pool_177 rfl ?_
        refine A_lload dX11_pool_179 rfl ?_
        refine A_lmul dX11_pool_181 ?_
        refine A_lload dX11_pool_182 rfl ?_
        obtain ⟨hg, h⟩ := gNL_go h
        refine A_ldiv dX11_pool_184 hg ?_
        refine A_lsub dX11_pool_185 ?_
        refine A_lstore8 dX11_pool_186 (by decide) rfl (bI_go h (G := fun z => AT l g RX11 cX11_pool 16 (some .int) (rmM 3 77) (PI r Mr) 188 [some (.ref (g.1 11)), some (.int v1), some (.int v2), some (.int v3), some (.long v4), none, some (.long v6), none, some (.long z), none, some (.long v10), none, some (.int v12), some (.int v13), some (.long z30), none] [] M31) (fun x32 h => ?_))
        refine A_iload dX11_pool_188 rfl ?_
        refine A_iload_n dX11_pool_190 rfl ?_
        obtain ⟨J33, hJ33, h⟩ := jn_go h
        have JJ33 : ∀ (z34 : Int64), J33 z34 = some (r, Mr) → AT l g RX11 cX11_pool 16 (some .int) (rmM 3 77) (PI r Mr) 207 [some (.ref (g.1 11)), some (.int v1), some (.int v2), some (.int v3), some (.long v4), none, some (.long v6), none, some (.long x32), none, some (.long v10), none, some (.int v12), some (.int v13), some (.long z30), none] [.long z34] M31 := by
          intro z34 h
          rw [hJ33] at h
          refine A_lstore10 dX11_pool_207 (by decide) rfl ?_
          refine A_iload dX11_pool_209 rfl ?_
          refine A_iload dX11_pool_211 rfl ?_
          refine A_iload_n dX11_pool_213 rfl ?_
          obtain ⟨J35, hJ35, h⟩ := jn_go h
          have JJ35 : ∀ (z36 : Int32), J35 z36 = some (r, Mr) → AT l g RX11 cX11_pool 16 (some .int) (rmM 3 77) (PI r Mr) 229 [some (.ref (g.1 11)), some (.int v1), some (.int v2), some (.int v3), some (.long v4), none, some (.long v6), none, some (.long x32), none, some (.long z34), none, some (.int v12), some (.int v13), some (.long z30), none] [.int z36, .int v12] M31 := by
            intro z36 h
            rw [hJ35] at h
            refine A_iadd dX11_pool_229 ?_
            refine A_istore12 dX11_pool_230 (by decide) rfl (bI_go h (G := fun z => AT l g RX11 cX11_pool 16 (some .int) (rmM 3 77) (PI r Mr) 232 [some (.ref (g.1 11)), some (.int v1), some (.int v2), some (.int v3), some (.long v4), none, some (.long v6), none, some (.long x32), none, some (.long z34), none, some (.int z), some (.int v13), some (.long z30), none] [] M31) (fun x37 h => ?_))
            refine A_iinc13 (d := 1) dX11_pool_232 (by decide) (by decide) rfl ?_
            refine A_goto dX11_pool_235 ?_
            exact A_le (lvLe_s (lvLe_s (lvLe_s (lvLe_s (lvLe_s (lvLe_n (lvLe_s (lvLe_n (lvLe_s (lvLe_n (lvLe_s (lvLe_n (lvLe_s (lvLe_s (lvLe_n (lvLe_n lvLe_0)))))))))))))))) (ih143 _ _ _ _ _ K143 h hK143)
          refine A_icmp_ge dX11_pool_214 (fun hc => ?_) (fun hc => ?_)
          · have h := gT_go hc h
            refine A_iconst (v := 0) dX11_pool_228 (by decide) ?_
            exact A_le (lvLe_s (lvLe_s (lvLe_s (lvLe_s (lvLe_s (lvLe_n (lvLe_s (lvLe_n (lvLe_s (lvLe_n (lvLe_s (lvLe_n (lvLe_s (lvLe_s (lvLe_s (lvLe_n lvLe_0)))))))))))))))) (JJ35 _ h)
          · have h := gF_go hc h
            refine A_lload dX11_pool_217 rfl ?_
            refine A_lconst (v := 0) dX11_pool_219 (by decide) ?_
            refine A_lcmp dX11_pool_220 ?_
            refine A_if_le dX11_pool_221 (fun hc => ?_) (fun hc => ?_)
            · have h := gT_go hc h
              refine A_iconst (v := 0) dX11_pool_228 (by decide) ?_
              exact A_le (lvLe_s (lvLe_s (lvLe_s (lvLe_s (lvLe_s (lvLe_n (lvLe_s (lvLe_n (lvLe_s (lvLe_n (lvLe_s (lvLe_n (lvLe_s (lvLe_s (lvLe_s (lvLe_n lvLe_0)))))))))))))))) (JJ35 _ h)
            · have h := gF_go hc h
              refine A_iconst (v := 1) dX11_pool_224 (by decide) ?_
              refine A_goto dX11_pool_225 ?_
              exact A_le (lvLe_s (lvLe_s (lvLe_s (lvLe_s (lvLe_s (lvLe_n (lvLe_s (lvLe_n (lvLe_s (lvLe_n (lvLe_s (lvLe_n (lvLe_s (lvLe_s (lvLe_s (lvLe_n lvLe_0)))))))))))))))) (JJ35 _ h)
        refine A_icmp_ne dX11_pool_191 (fun hc => ?_) (fun hc => ?_)
        · have h := gF_go hc h
          refine A_lload dX11_pool_205 rfl ?_
          exact A_le (lvLe_s (lvLe_s (lvLe_s (lvLe_s (lvLe_s (lvLe_n (lvLe_s (lvLe_n (lvLe_s (lvLe_n (lvLe_s (lvLe_n (lvLe_s (lvLe_s (lvLe_s (lvLe_n lvLe_0)))))))))))))))) (JJ33 _ h)
        · have h := gT_go hc h
          refine A_lload dX11_pool_194 rfl ?_
          refine A_lload dX11_pool_196 rfl ?_
          refine A_lmul dX11_pool_198 ?_
          refine A_lload dX11_pool_199 rfl ?_
          obtain ⟨hg, h⟩ := gNL_go h
          refine A_ldiv dX11_pool_201 hg ?_
          refine A_goto dX11_pool_202 ?_
          exact A_le (lvLe_s (lvLe_s (lvLe_s (lvLe_s (lvLe_s (lvLe_n (lvLe_s (lvLe_n (lvLe_s (lvLe_n (lvLe_s (lvLe_n (lvLe_s (lvLe_s (lvLe_s (lvLe_n lvLe_0)))))))))))))))) (JJ33 _ h)
      refine A_icmp_ne dX11_pool_157 (fun hc => ?_) (fun hc => ?_)
      · have h := gF_go hc h
        refine A_lconst (v := 0) dX11_pool_172 (by decide) ?_
        exact A_le (lvLe_s (lvLe_s (lvLe_s (lvLe_s (lvLe_s (lvLe_n (lvLe_s (lvLe_n (lvLe_s (lvLe_n (lvLe_s (lvLe_n (lvLe_s (lvLe_s (lvLe_n (lvLe_n lvLe_0)))))))))))))))) (JJ29 _ _ h)
      · have h := gT_go hc h
        refine A_aload_n dX11_pool_160 rfl ?_
        refine A_iload dX11_pool_161 rfl ?_
        refine A_iload_n dX11_pool_163 rfl ?_
        refine A_iconst (v := 3) dX11_pool_164 (by decide) ?_
        obtain ⟨r39, M38, h1, h⟩ := bE_go h
        refine A_cVi3 dX11_pool_165 ml_X11_230 mb_X11_payOf mi_X11_payOf ob11 rfl rfl ⟨Nat.le_of_ble_eq_true rfl, Nat.le_of_ble_eq_true rfl⟩ (Nat.le_of_ble_eq_true rfl) (ok_X11_payOf h1) ?_
        refine A_i2l dX11_pool_168 ?_
        refine A_goto dX11_pool_169 ?_
        exact A_le (lvLe_s (lvLe_s (lvLe_s (lvLe_s (lvLe_s (lvLe_n (lvLe_s (lvLe_n (lvLe_s (lvLe_n (lvLe_s (lvLe_n (lvLe_s (lvLe_s (lvLe_n (lvLe_n lvLe_0)))))))))))))))) (JJ29 _ _ h)
def f_X11_pool (v1 : Int32) (v2 : Int32) (v3 : Int32) (M : Mem) : Option Ret := bE (f_X11_isIn v1 (1 : Int32) (255 : Int32) M) (fun r2 M1 => if r2 = 0 then (bE (f_X11_finding (1 : Int32) M1) (fun r4 M3 => some (r4, M3))) else (bE (f_X11_isWeek v2 M1) (fun r6 M5 => if r6 = 0 then (bE (f_X11_finding (1 : Int32) M5) (fun r8 M7 => some (r8, M7))) else (bE (f_X11_isWorker v3 M5) (fun r10 M9 => if r10 = 0 then (bE (f_X11_finding (1 : Int32) M9) (fun r12 M11 => some (r12, M11))) else (if ((v1 >>> (v3 &&& 31)) &&& (1 : Int32)) = 0 then (bE (f_X11_finding (1 : Int32) M9) (fun r52 M51 => some (r52, M51))) else (f_X11_pool_L48 v1 v2 v3 FU (0 : Int64) (0 : Int64) (0 : Int32) M9 (fun w25 w26 w27 M28 => if (lg_cmp w26 (0 : Int64)) = 0 then (bE (f_X11_finding (2 : Int32) M28) (fun r50 M49 => some (r50, M49))) else (f_X11_pool_L143 v1 v2 v3 w25 w26 FU w25 (0 : Int64) (0 : Int32) (0 : Int32) M28 (fun w40 w41 w42 w43 M44 => bE (f_X11_payOf v3 v2 (3 : Int32) M44) (fun r46 M45 => jn (α := Int32 → Option Ret) (fun (z48 : Int32) => some ((w41.toInt32) + z48, M45)) (fun J47 => if r46 ≤ 0 then (J47 (0 : Int32)) else (if (lg_cmp w40 (w42.toInt64)) ≤ 0 then (J47 (0 : Int32)) else (J47 (1 : Int32)))))))))))))))
set_option maxRecDepth 100000 in
theorem ok_X11_pool {l : Launch} {g : Cx} {v1 : Int32} {v2 : Int32} {v3 : Int32} {M : Mem} {r : Int32} {Mr : Mem} (h : f_X11_pool v1 v2 v3 M = some (r, Mr)) : CT l g yX11_pool cX11_pool 16 (some .int) 3 77 [.ref (g.1 11), .int v1, .int v2, .int v3] M (PI r Mr) := by
  refine CT_of (lv := [some (.ref (g.1 11)), some (.int v1), some (.int v2), some (.int v3), none, none, none, none, none, none, none, none, none, none, none, none]) (by decide) rfl (Nat.le_of_ble_eq_true rfl) ?_
  unfold f_X11_pool at h
  refine A_iload_n dX11_pool_0 rfl ?_
  refine A_iconst (v := 1) dX11_pool_1 (by decide) ?_
  refine A_sipush (v := 255) dX11_pool_2 (by decide) ?_
  obtain ⟨r2, M1, h1, h⟩ := bE_go h
  refine A_cSi3 dX11_pool_5 ml_X11_133 mb_X11_isIn ms_X11_isIn ⟨Nat.le_of_ble_eq_true rfl, Nat.le_of_ble_eq_true rfl⟩ (Nat.le_of_ble_eq_true rfl) (ok_X11_isIn h1) ?_
  refine A_if_eq dX11_pool_8 (fun hc => ?_) (fun hc => ?_)
  · have h := gT_go hc h
    refine A_aload_n dX11_pool_33 rfl ?_
    refine A_iconst (v := 1) dX11_pool_34 (by decide) ?_
    obtain ⟨r4, M3, h1, h⟩ := bE_go h
    refine A_cVi1 dX11_pool_35 ml_X11_137 mb_X11_finding mi_X11_finding ob11 rfl rfl ⟨Nat.le_of_ble_eq_true rfl, Nat.le_of_ble_eq_true rfl⟩ (Nat.le_of_ble_eq_true rfl) (ok_X11_finding h1) ?_
    exact A_iret dX11_pool_38 (pI_go h)
  · have h := gF_go hc h
    refine A_iload_n dX11_pool_11 rfl ?_
    obtain ⟨r6, M5, h1, h⟩ := bE_go h
    refine A_cSi1 dX11_pool_12 ml_X11_192 mb_X11_isWeek ms_X11_isWeek ⟨Nat.le_of_ble_eq_true rfl, Nat.le_of_ble_eq_true rfl⟩ (Nat.le_of_ble_eq_true rfl) (ok_X11_isWeek h1) ?_
    refine A_if_eq dX11_pool_15 (fun hc => ?_) (fun hc => ?_)
    · have h := gT_go hc h
      refine A_aload_n dX11_pool_33 rfl ?_
      refine A_iconst (v := 1) dX11_pool_34 (by decide) ?_
      obtain ⟨r8, M7, h1, h⟩ := bE_go h
      refine A_cVi1 dX11_pool_35 ml_X11_137 mb_X11_finding mi_X11_finding ob11 rfl rfl ⟨Nat.le_of_ble_eq_true rfl, Nat.le_of_ble_eq_true rfl⟩ (Nat.le_of_ble_eq_true rfl) (ok_X11_finding h1) ?_
      exact A_iret dX11_pool_38 (pI_go h)
    · have h := gF_go hc h
      refine A_iload_n dX11_pool_18 rfl ?_
      obtain ⟨r10, M9, h1, h⟩ := bE_go h
      refine A_cSi1 dX11_pool_19 ml_X11_217 mb_X11_isWorker ms_X11_isWorker ⟨Nat.le_of_ble_eq_true rfl, Nat.le_of_ble_eq_true rfl⟩ (Nat.le_of_ble_eq_true rfl) (ok_X11_isWorker h1) ?_
      refine A_if_eq dX11_pool_22 (fun hc => ?_) (fun hc => ?_)
      · have h := gT_go hc h
        refine A_aload_n dX11_pool_33 rfl ?_
        refine A_iconst (v := 1) dX11_pool_34 (by decide) ?_
        obtain ⟨r12, M11, h1, h⟩ := bE_go h
        refine A_cVi1 dX11_pool_35 ml_X11_137 mb_X11_finding mi_X11_finding ob11 rfl rfl ⟨Nat.le_of_ble_eq_true rfl, Nat.le_of_ble_eq_true rfl⟩ (Nat.le_of_ble_eq_true rfl) (ok_X11_finding h1) ?_
        exact A_iret dX11_pool_38 (pI_go h)
      · have h := gF_go hc h
        refine A_iload_n dX11_pool_25 rfl ?_
        refine A_iload_n dX11_pool_26 rfl ?_
        refine A_ishr dX11_pool_27 ?_
        refine A_iconst (v := 1) dX11_pool_28 (by decide) ?_
        refine A_iand dX11_pool_29 ?_
        refine A_if_ne dX11_pool_30 (fun hc => ?_) (fun hc => ?_)
        · have h := gF_go hc h
          refine A_lconst (v := 0) dX11_pool_39 (by decide) ?_
          refine A_lstore4 dX11_pool_40 (by decide) rfl ?_
          refine A_lconst (v := 0) dX11_pool_42 (by decide) ?_
          refine A_lstore6 dX11_pool_43 (by decide) rfl ?_
          refine A_iconst (v := 0) dX11_pool_45 (by decide) ?_
          refine A_istore8 dX11_pool_46 (by decide) rfl ?_
          refine f_X11_pool_L48_ok _ _ _ FU _ _ _ _ _ h (fun w25 w26 w27 M28 h => ?_)
          refine A_lload dX11_pool_117 rfl ?_
          refine A_lconst (v := 0) dX11_pool_119 (by decide) ?_
          refine A_lcmp dX11_pool_120 ?_
          refine A_if_ne dX11_pool_121 (fun hc => ?_) (fun hc => ?_)
          · have h := gF_go hc h
            refine A_lload dX11_pool_130 rfl ?_
            refine A_lstore8 dX11_pool_132 (by decide) rfl ?_
            refine A_lconst (v := 0) dX11_pool_134 (by decide) ?_
            refine A_lstore10 dX11_pool_135 (by decide) rfl ?_
            refine A_iconst (v := 0) dX11_pool_137 (by decide) ?_
            refine A_istore12 dX11_pool_138 (by decide) rfl ?_
            refine A_iconst (v := 0) dX11_pool_140 (by decide) ?_
            refine A_istore13 dX11_pool_141 (by decide) rfl ?_
            refine f_X11_pool_L143_ok _ _ _ _ _ FU _ _ _ _ _ _ h (fun w40 w41 w42 w43 M44 h => ?_)
            refine A_lload dX11_pool_238 rfl ?_
            refine A_l2i dX11_pool_240 ?_
            refine A_aload_n dX11_pool_241 rfl ?_
            refine A_iload_n dX11_pool_242 rfl ?_
            refine A_iload_n dX11_pool_243 rfl ?_
            refine A_iconst (v := 3) dX11_pool_244 (by decide) ?_
            obtain ⟨r46, M45, h1, h⟩ := bE_go h
            refine A_cVi3 dX11_pool_245 ml_X11_230 mb_X11_payOf mi_X11_payOf ob11 rfl rfl ⟨Nat.le_of_ble_eq_true rfl, Nat.le_of_ble_eq_true rfl⟩ (Nat.le_of_ble_eq_true rfl) (ok_X11_payOf h1) ?_
            obtain ⟨J47, hJ47, h⟩ := jn_go h
            have JJ47 : ∀ (z48 : Int32), J47 z48 = some (r, Mr) → AT l g RX11 cX11_pool 16 (some .int) (rmM 3 77) (PI r Mr) 265 [some (.ref (g.1 11)), some (.int v1), some (.int v2), some (.int v3), some (.long w25), none, some (.long w26), none, some (.long w40), none, some (.long w41), none, some (.int w42), some (.int w43), none, none] [.int z48, .int (w41.toInt32)] M45 := by
              intro z48 h
              rw [hJ47] at h
              refine A_iadd dX11_pool_265 ?_
              exact A_iret dX11_pool_266 (pI_go h)
            refine A_if_le dX11_pool_248 (fun hc => ?_) (fun hc => ?_)
            · have h := gT_go hc h
              refine A_iconst (v := 0) dX11_pool_264 (by decide) ?_
              exact A_le (lvLe_s (lvLe_s (lvLe_s (lvLe_s (lvLe_s (lvLe_n (lvLe_s (lvLe_n (lvLe_s (lvLe_n (lvLe_s (lvLe_n (lvLe_s (lvLe_s (lvLe_n (lvLe_n lvLe_0)))))))))))))))) (JJ47 _ h)
            · have h := gF_go hc h
              refine A_lload dX11_pool_251 rfl ?_
              refine A_iload dX11_pool_253 rfl ?_
              refine A_i2l dX11_pool_255 ?_
              refine A_lcmp dX11_pool_256 ?_
              refine A_if_le dX11_pool_257 (fun hc => ?_) (fun hc => ?_)
              · have h := gT_go hc h
                refine A_iconst (v := 0) dX11_pool_264 (by decide) ?_
                exact A_le (lvLe_s (lvLe_s (lvLe_s (lvLe_s (lvLe_s (lvLe_n (lvLe_s (lvLe_n (lvLe_s (lvLe_n (lvLe_s (lvLe_n (lvLe_s (lvLe_s (lvLe_n (lvLe_n lvLe_0)))))))))))))))) (JJ47 _ h)
              · have h := gF_go hc h
                refine A_iconst (v := 1) dX11_pool_260 (by decide) ?_
                refine A_goto dX11_pool_261 ?_
                exact A_le (lvLe_s (lvLe_s (lvLe_s (lvLe_s (lvLe_s (lvLe_n (lvLe_s (lvLe_n (lvLe_s (lvLe_n (lvLe_s (lvLe_n (lvLe_s (lvLe_s (lvLe_n (lvLe_n lvLe_0)))))))))))))))) (JJ47 _ h)
          · have h := gT_go hc h
            refine A_aload_n dX11_pool_124 rfl ?_
            refine A_iconst (v := 2) dX11_pool_125 (by decide) ?_
            obtain ⟨r50, M49, h1, h⟩ := bE_go h
            refine A_cVi1 dX11_pool_126 ml_X11_137 mb_X11_finding mi_X11_finding ob11 rfl rfl ⟨Nat.le_of_ble_eq_true rfl, Nat.le_of_ble_eq_true rfl⟩ (Nat.le_of_ble_eq_true rfl) (ok_X11_finding h1) ?_
            exact A_iret dX11_pool_129 (pI_go h)
        · have h := gT_go hc h
          refine A_aload_n dX11_pool_33 rfl ?_
          refine A_iconst (v := 1) dX11_pool_34 (by decide) ?_
          obtain ⟨r52, M51, h1, h⟩ := bE_go h
          refine A_cVi1 dX11_pool_35 ml_X11_137 mb_X11_finding mi_X11_finding ob11 rfl rfl ⟨Nat.le_of_ble_eq_true rfl, Nat.le_of_ble_eq_true rfl⟩ (Nat.le_of_ble_eq_true rfl) (ok_X11_finding h1) ?_
          exact A_iret dX11_pool_38 (pI_go h)
-- BenchTimesModel.efficiencyOf
theorem dX11_efficiencyOf_0 : di cX11_efficiencyOf 0 (.lconst 0) 1 1 := ⟨by decide +kernel, rfl⟩
theorem dX11_efficiencyOf_1 : di cX11_efficiencyOf 1 (.lstore_n 3) 1 2 := ⟨by decide +kernel, rfl⟩
theorem dX11_efficiencyOf_2 : di cX11_efficiencyOf 2 (.lconst 0) 1 3 := ⟨by decide +kernel, rfl⟩
theorem dX11_efficiencyOf_3 : di cX11_efficiencyOf 3 (.lstore 5) 2 5 := ⟨by decide +kernel, rfl⟩
theorem dX11_efficiencyOf_5 : di cX11_efficiencyOf 5 (.iconst 0) 1 6 := ⟨by decide +kernel, rfl⟩
theorem dX11_efficiencyOf_6 : di cX11_efficiencyOf 6 (.istore 7) 2 8 := ⟨by decide +kernel, rfl⟩
theorem dX11_efficiencyOf_8 : di cX11_efficiencyOf 8 (.iload 7) 2 10 := ⟨by decide +kernel, rfl⟩
theorem dX11_efficiencyOf_10 : di cX11_efficiencyOf 10 (.aload_n 0) 1 11 := ⟨by decide +kernel, rfl⟩
theorem dX11_efficiencyOf_11 : di cX11_efficiencyOf 11 (.getfield 221) 3 14 := ⟨by decide +kernel, rfl⟩
theorem dX11_efficiencyOf_14 : dj cX11_efficiencyOf 14 (.if_icmp .ge) 17 68 := ⟨54, by decide +kernel, rfl, rfl⟩
theorem dX11_efficiencyOf_17 : di cX11_efficiencyOf 17 (.aload_n 0) 1 18 := ⟨by decide +kernel, rfl⟩
theorem dX11_efficiencyOf_18 : di cX11_efficiencyOf 18 (.getfield 69) 3 21 := ⟨by decide +kernel, rfl⟩
theorem dX11_efficiencyOf_21 : di cX11_efficiencyOf 21 (.iload 7) 2 23 := ⟨by decide +kernel, rfl⟩
theorem dX11_efficiencyOf_23 : di cX11_efficiencyOf 23 (.iaload) 1 24 := ⟨by decide +kernel, rfl⟩
theorem dX11_efficiencyOf_24 : di cX11_efficiencyOf 24 (.iload_n 1) 1 25 := ⟨by decide +kernel, rfl⟩
theorem dX11_efficiencyOf_25 : dj cX11_efficiencyOf 25 (.if_icmp .ne) 28 62 := ⟨37, by decide +kernel, rfl, rfl⟩
theorem dX11_efficiencyOf_28 : di cX11_efficiencyOf 28 (.aload_n 0) 1 29 := ⟨by decide +kernel, rfl⟩
theorem dX11_efficiencyOf_29 : di cX11_efficiencyOf 29 (.getfield 72) 3 32 := ⟨by decide +kernel, rfl⟩
theorem dX11_efficiencyOf_32 : di cX11_efficiencyOf 32 (.iload 7) 2 34 := ⟨by decide +kernel, rfl⟩
theorem dX11_efficiencyOf_34 : di cX11_efficiencyOf 34 (.iaload) 1 35 := ⟨by decide +kernel, rfl⟩
theorem dX11_efficiencyOf_35 : di cX11_efficiencyOf 35 (.iload_n 2) 1 36 := ⟨by decide +kernel, rfl⟩
theorem dX11_efficiencyOf_36 : dj cX11_efficiencyOf 36 (.if_icmp .ne) 39 62 := ⟨26, by decide +kernel, rfl, rfl⟩
theorem dX11_efficiencyOf_39 : di cX11_efficiencyOf 39 (.lload_n 3) 1 40 := ⟨by decide +kernel, rfl⟩
theorem dX11_efficiencyOf_40 : di cX11_efficiencyOf 40 (.aload_n 0) 1 41 := ⟨by decide +kernel, rfl⟩
theorem dX11_efficiencyOf_41 : di cX11_efficiencyOf 41 (.iload 7) 2 43 := ⟨by decide +kernel, rfl⟩
theorem dX11_efficiencyOf_43 : di cX11_efficiencyOf 43 (.invokevirtual 227) 3 46 := ⟨by decide +kernel, rfl⟩
theorem dX11_efficiencyOf_46 : di cX11_efficiencyOf 46 (.i2l) 1 47 := ⟨by decide +kernel, rfl⟩
theorem dX11_efficiencyOf_47 : di cX11_efficiencyOf 47 (.ladd) 1 48 := ⟨by decide +kernel, rfl⟩
theorem dX11_efficiencyOf_48 : di cX11_efficiencyOf 48 (.lstore_n 3) 1 49 := ⟨by decide +kernel, rfl⟩
theorem dX11_efficiencyOf_49 : di cX11_efficiencyOf 49 (.lload 5) 2 51 := ⟨by decide +kernel, rfl⟩
theorem dX11_efficiencyOf_51 : di cX11_efficiencyOf 51 (.aload_n 0) 1 52 := ⟨by decide +kernel, rfl⟩
theorem dX11_efficiencyOf_52 : di cX11_efficiencyOf 52 (.getfield 81) 3 55 := ⟨by decide +kernel, rfl⟩
theorem dX11_efficiencyOf_55 : di cX11_efficiencyOf 55 (.iload 7) 2 57 := ⟨by decide +kernel, rfl⟩
theorem dX11_efficiencyOf_57 : di cX11_efficiencyOf 57 (.iaload) 1 58 := ⟨by decide +kernel, rfl⟩
theorem dX11_efficiencyOf_58 : di cX11_efficiencyOf 58 (.i2l) 1 59 := ⟨by decide +kernel, rfl⟩
theorem dX11_efficiencyOf_59 : di cX11_efficiencyOf 59 (.ladd) 1 60 := ⟨by decide +kernel, rfl⟩
theorem dX11_efficiencyOf_60 : di cX11_efficiencyOf 60 (.lstore 5) 2 62 := ⟨by decide +kernel, rfl⟩
theorem dX11_efficiencyOf_62 : di cX11_efficiencyOf 62 (.iinc 7 1) 3 65 := ⟨by decide +kernel, rfl⟩
theorem dX11_efficiencyOf_65 : dj cX11_efficiencyOf 65 .goto 68 8 := ⟨-57, by decide +kernel, rfl, rfl⟩
theorem dX11_efficiencyOf_68 : di cX11_efficiencyOf 68 (.lload 5) 2 70 := ⟨by decide +kernel, rfl⟩
theorem dX11_efficiencyOf_70 : di cX11_efficiencyOf 70 (.lconst 0) 1 71 := ⟨by decide +kernel, rfl⟩
theorem dX11_efficiencyOf_71 : di cX11_efficiencyOf 71 (.lcmp) 1 72 := ⟨by decide +kernel, rfl⟩
theorem dX11_efficiencyOf_72 : dj cX11_efficiencyOf 72 (.ifCond .ne) 75 79 := ⟨7, by decide +kernel, rfl, rfl⟩
theorem dX11_efficiencyOf_75 : di cX11_efficiencyOf 75 (.iconst (-1)) 1 76 := ⟨by decide +kernel, rfl⟩
theorem dX11_efficiencyOf_76 : dj cX11_efficiencyOf 76 .goto 79 88 := ⟨12, by decide +kernel, rfl, rfl⟩
theorem dX11_efficiencyOf_79 : di cX11_efficiencyOf 79 (.ldc2_w 233) 3 82 := ⟨by decide +kernel, rfl⟩
theorem dX11_efficiencyOf_82 : di cX11_efficiencyOf 82 (.lload_n 3) 1 83 := ⟨by decide +kernel, rfl⟩
theorem dX11_efficiencyOf_83 : di cX11_efficiencyOf 83 (.lmul) 1 84 := ⟨by decide +kernel, rfl⟩
theorem dX11_efficiencyOf_84 : di cX11_efficiencyOf 84 (.lload 5) 2 86 := ⟨by decide +kernel, rfl⟩
theorem dX11_efficiencyOf_86 : di cX11_efficiencyOf 86 (.ldiv) 1 87 := ⟨by decide +kernel, rfl⟩
theorem dX11_efficiencyOf_87 : di cX11_efficiencyOf 87 (.l2i) 1 88 := ⟨by decide +kernel, rfl⟩
theorem dX11_efficiencyOf_88 : di cX11_efficiencyOf 88 (.ireturn) 1 89 := ⟨by decide +kernel, rfl⟩
def f_X11_efficiencyOf_L8 (v1 : Int32) (v2 : Int32) : Nat → Int64 → Int64 → Int32 → Mem → (Int64 → Int64 → Int32 → Mem → Option Ret) → Option Ret
  | 0, _, _, _, _, _ => none
  | k8 + 1, v3, v5, v7, M, K8 => if (M.1 11 25) ≤ v7 then (K8 v3 v5 v7 M) else (gV v7 100 (jn (α := Int64 → Int64 → Mem → Option Ret) (fun (y2 : Int64) (y3 : Int64) (M4 : Mem) => f_X11_efficiencyOf_L8 v1 v2 k8 y2 y3 (v7 + (1 : Int32)) M4 K8) (fun J1 => if (M.1 83 v7.toNatClampNeg) = v1 then (gV v7 100 (if (M.1 84 v7.toNatClampNeg) = v2 then (bE (f_X11_earnedBy v7 M) (fun r6 M5 => bI (v3 + (r6.toInt64)) (fun x7 => gV v7 100 (bI (v5 + ((M5.1 87 v7.toNatClampNeg).toInt64)) (fun x8 => J1 x7 x8 M5))))) else (J1 v3 v5 M))) else (J1 v3 v5 M))))
set_option maxRecDepth 100000 in
theorem f_X11_efficiencyOf_L8_ok {l : Launch} {g : Cx} (v1 : Int32) (v2 : Int32)  {r : Int32} {Mr : Mem} : ∀ (k : Nat) (v3 : Int64) (v5 : Int64) (v7 : Int32) (M : Mem) (K8 : Int64 → Int64 → Int32 → Mem → Option Ret), f_X11_efficiencyOf_L8 v1 v2 k v3 v5 v7 M K8 = some (r, Mr) → (∀ (v3 : Int64) (v5 : Int64) (v7 : Int32) (M : Mem), K8 v3 v5 v7 M = some (r, Mr) → AT l g RX11 cX11_efficiencyOf 8 (some .int) (rmM 2 49) (PI r Mr) 68 [some (.ref (g.1 11)), some (.int v1), some (.int v2), some (.long v3), none, some (.long v5), none, some (.int v7)] [] M) → AT l g RX11 cX11_efficiencyOf 8 (some .int) (rmM 2 49) (PI r Mr) 8 [some (.ref (g.1 11)), some (.int v1), some (.int v2), some (.long v3), none, some (.long v5), none, some (.int v7)] [] M
  | 0, v3, v5, v7, M, K8, h, hK8 => by cases h
  | k8 + 1, v3, v5, v7, M, K8, h, hK8 => by
    have ih8 := f_X11_efficiencyOf_L8_ok (l := l) (g := g) v1 v2 (r := r) (Mr := Mr) k8
    rw [f_X11_efficiencyOf_L8] at h
    refine A_iload dX11_efficiencyOf_8 rfl ?_
    refine A_aload_n dX11_efficiencyOf_10 rfl ?_
    refine A_getf dX11_efficiencyOf_11 fw_X11_221 ob11 rfl ?_
    refine A_icmp_ge dX11_efficiencyOf_14 (fun hc => ?_) (fun hc => ?_)
    · have h := gT_go hc h
      exact A_le (lvLe_s (lvLe_s (lvLe_s (lvLe_s (lvLe_n (lvLe_s (lvLe_n (lvLe_s lvLe_0)))))))) (hK8 _ _ _ _ h)
    · have h := gF_go hc h
      refine A_aload_n dX11_efficiencyOf_17 rfl ?_
      refine A_getf dX11_efficiencyOf_18 fw_X11_69 ob11 rfl ?_
      refine A_iload dX11_efficiencyOf_21 rfl ?_
      obtain ⟨hg, h⟩ := gV_go h
      refine A_iald dX11_efficiencyOf_23 ia83 hg ?_
      refine A_iload_n dX11_efficiencyOf_24 rfl ?_
      obtain ⟨J1, hJ1, h⟩ := jn_go h
      have JJ1 : ∀ (y2 : Int64) (y3 : Int64) (M4 : Mem), J1 y2 y3 M4 = some (r, Mr) → AT l g RX11 cX11_efficiencyOf 8 (some .int) (rmM 2 49) (PI r Mr) 62 [some (.ref (g.1 11)), some (.int v1), some (.int v2), some (.long y2), none, some (.long y3), none, some (.int v7)] [] M4 := by
        intro y2 y3 M4 h
        rw [hJ1] at h
        refine A_iinc7 (d := 1) dX11_efficiencyOf_62 (by decide) (by decide) rfl ?_
        refine A_goto dX11_efficiencyOf_65 ?_
        exact A_le (lvLe_s (lvLe_s (lvLe_s (lvLe_s (lvLe_n (lvLe_s (lvLe_n (lvLe_s lvLe_0)))))))) (ih8 _ _ _ _ K8 h hK8)
      refine A_icmp_ne dX11_efficiencyOf_25 (fun hc => ?_) (fun hc => ?_)
      · have h := gF_go hc h
        exact A_le (lvLe_s (lvLe_s (lvLe_s (lvLe_s (lvLe_n (lvLe_s (lvLe_n (lvLe_s lvLe_0)))))))) (JJ1 _ _ _ h)
      · have h := gT_go hc h
        refine A_aload_n dX11_efficiencyOf_28 rfl ?_
        refine A_getf dX11_efficiencyOf_29 fw_X11_72 ob11 rfl ?_
        refine A_iload dX11_efficiencyOf_32 rfl ?_
        obtain ⟨hg, h⟩ := gV_go h
        refine A_iald dX11_efficiencyOf_34 ia84 hg ?_
        refine A_iload_n dX11_efficiencyOf_35 rfl ?_
        refine A_icmp_ne dX11_efficiencyOf_36 (fun hc => ?_) (fun hc => ?_)
        · have h := gF_go hc h
          exact A_le (lvLe_s (lvLe_s (lvLe_s (lvLe_s (lvLe_n (lvLe_s (lvLe_n (lvLe_s lvLe_0)))))))) (JJ1 _ _ _ h)
        · have h := gT_go hc h
          refine A_lload_n dX11_efficiencyOf_39 rfl ?_
          refine A_aload_n dX11_efficiencyOf_40 rfl ?_
          refine A_iload dX11_efficiencyOf_41 rfl ?_
          obtain ⟨r6, M5, h1, h⟩ := bE_go h
          refine A_cVi1 dX11_efficiencyOf_43 ml_X11_227 mb_X11_earnedBy mi_X11_earnedBy ob11 rfl rfl ⟨Nat.le_of_ble_eq_true rfl, Nat.le_of_ble_eq_true rfl⟩ (Nat.le_of_ble_eq_true rfl) (ok_X11_earnedBy h1) ?_
          refine A_i2l dX11_efficiencyOf_46 ?_
          refine A_ladd dX11_efficiencyOf_47 ?_
          refine A_lstoren3 dX11_efficiencyOf_48 (by decide) rfl (bI_go h (G := fun z => AT l g RX11 cX11_efficiencyOf 8 (some .int) (rmM 2 49) (PI r Mr) 49 [some (.ref (g.1 11)), some (.int v1), some (.int v2), some (.long z), none, some (.long v5), none, some (.int v7)] [] M5) (fun x7 h => ?_))
          refine A_lload dX11_efficiencyOf_49 rfl ?_
          refine A_aload_n dX11_efficiencyOf_51 rfl ?_
          refine A_getf dX11_efficiencyOf_52 fw_X11_81 ob11 rfl ?_
          refine A_iload dX11_efficiencyOf_55 rfl ?_
          obtain ⟨hg, h⟩ := gV_go h
          refine A_iald dX11_efficiencyOf_57 ia87 hg ?_
          refine A_i2l dX11_efficiencyOf_58 ?_
          refine A_ladd dX11_efficiencyOf_59 ?_
          refine A_lstore5 dX11_efficiencyOf_60 (by decide) rfl (bI_go h (G := fun z => AT l g RX11 cX11_efficiencyOf 8 (some .int) (rmM 2 49) (PI r Mr) 62 [some (.ref (g.1 11)), some (.int v1), some (.int v2), some (.long x7), none, some (.long z), none, some (.int v7)] [] M5) (fun x8 h => ?_))
          exact A_le (lvLe_s (lvLe_s (lvLe_s (lvLe_s (lvLe_n (lvLe_s (lvLe_n (lvLe_s lvLe_0)))))))) (JJ1 _ _ _ h)
def f_X11_efficiencyOf (v1 : Int32) (v2 : Int32) (M : Mem) : Option Ret := f_X11_efficiencyOf_L8 v1 v2 FU (0 : Int64) (0 : Int64) (0 : Int32) M (fun w9 w10 w11 M12 => jn (α := Int32 → Option Ret) (fun (z14 : Int32) => some (z14, M12)) (fun J13 => if (lg_cmp w10 (0 : Int64)) = 0 then (J13 (-1 : Int32)) else (gNL w10 (J13 ((((100 : Int64) * w9) / w10).toInt32)))))
set_option maxRecDepth 100000 in
theorem ok_X11_efficiencyOf {l : Launch} {g : Cx} {v1 : Int32} {v2 : Int32} {M : Mem} {r : Int32} {Mr : Mem} (h : f_X11_efficiencyOf v1 v2 M = some (r, Mr)) : CT l g yX11_efficiencyOf cX11_efficiencyOf 8 (some .int) 2 49 [.ref (g.1 11), .int v1, .int v2] M (PI r Mr) := by
  refine CT_of (lv := [some (.ref (g.1 11)), some (.int v1), some (.int v2), none, none, none, none, none]) (by decide) rfl (Nat.le_of_ble_eq_true rfl) ?_
  unfold f_X11_efficiencyOf at h
  refine A_lconst (v := 0) dX11_efficiencyOf_0 (by decide) ?_
  refine A_lstoren3 dX11_efficiencyOf_1 (by decide) rfl ?_
  refine A_lconst (v := 0) dX11_efficiencyOf_2 (by decide) ?_
  refine A_lstore5 dX11_efficiencyOf_3 (by decide) rfl ?_
  refine A_iconst (v := 0) dX11_efficiencyOf_5 (by decide) ?_
  refine A_istore7 dX11_efficiencyOf_6 (by decide) rfl ?_
  refine f_X11_efficiencyOf_L8_ok _ _ FU _ _ _ _ _ h (fun w9 w10 w11 M12 h => ?_)
  refine A_lload dX11_efficiencyOf_68 rfl ?_
  refine A_lconst (v := 0) dX11_efficiencyOf_70 (by decide) ?_
  refine A_lcmp dX11_efficiencyOf_71 ?_
  obtain ⟨J13, hJ13, h⟩ := jn_go h
  have JJ13 : ∀ (z14 : Int32), J13 z14 = some (r, Mr) → AT l g RX11 cX11_efficiencyOf 8 (some .int) (rmM 2 49) (PI r Mr) 88 [some (.ref (g.1 11)), some (.int v1), some (.int v2), some (.long w9), none, some (.long w10), none, some (.int w11)] [.int z14] M12 := by
    intro z14 h
    rw [hJ13] at h
    exact A_iret dX11_efficiencyOf_88 (pI_go h)
  refine A_if_ne dX11_efficiencyOf_72 (fun hc => ?_) (fun hc => ?_)
  · have h := gF_go hc h
    refine A_ldc2 dX11_efficiencyOf_79 kc_X11_233 ?_
    refine A_lload_n dX11_efficiencyOf_82 rfl ?_
    refine A_lmul dX11_efficiencyOf_83 ?_
    refine A_lload dX11_efficiencyOf_84 rfl ?_
    obtain ⟨hg, h⟩ := gNL_go h
    refine A_ldiv dX11_efficiencyOf_86 hg ?_
    refine A_l2i dX11_efficiencyOf_87 ?_
    exact A_le (lvLe_s (lvLe_s (lvLe_s (lvLe_s (lvLe_n (lvLe_s (lvLe_n (lvLe_s lvLe_0)))))))) (JJ13 _ h)
  · have h := gT_go hc h
    refine A_iconst (v := -1) dX11_efficiencyOf_75 (by decide) ?_
    refine A_goto dX11_efficiencyOf_76 ?_
    exact A_le (lvLe_s (lvLe_s (lvLe_s (lvLe_s (lvLe_n (lvLe_s (lvLe_n (lvLe_s lvLe_0)))))))) (JJ13 _ h)
-- BenchTimesModel.efficiency
theorem dX11_efficiency_0 : di cX11_efficiency 0 (.iload_n 1) 1 1 := ⟨by decide +kernel, rfl⟩
theorem dX11_efficiency_1 : di cX11_efficiency 1 (.invokestatic 217) 3 4 := ⟨by decide +kernel, rfl⟩
theorem dX11_efficiency_4 : dj cX11_efficiency 4 (.ifCond .eq) 7 15 := ⟨11, by decide +kernel, rfl, rfl⟩
theorem dX11_efficiency_7 : di cX11_efficiency 7 (.aload_n 0) 1 8 := ⟨by decide +kernel, rfl⟩
theorem dX11_efficiency_8 : di cX11_efficiency 8 (.iload_n 2) 1 9 := ⟨by decide +kernel, rfl⟩
theorem dX11_efficiency_9 : di cX11_efficiency 9 (.invokevirtual 176) 3 12 := ⟨by decide +kernel, rfl⟩
theorem dX11_efficiency_12 : dj cX11_efficiency 12 (.ifCond .ne) 15 21 := ⟨9, by decide +kernel, rfl, rfl⟩
theorem dX11_efficiency_15 : di cX11_efficiency 15 (.aload_n 0) 1 16 := ⟨by decide +kernel, rfl⟩
theorem dX11_efficiency_16 : di cX11_efficiency 16 (.iconst 1) 1 17 := ⟨by decide +kernel, rfl⟩
theorem dX11_efficiency_17 : di cX11_efficiency 17 (.invokevirtual 137) 3 20 := ⟨by decide +kernel, rfl⟩
theorem dX11_efficiency_20 : di cX11_efficiency 20 (.ireturn) 1 21 := ⟨by decide +kernel, rfl⟩
theorem dX11_efficiency_21 : di cX11_efficiency 21 (.aload_n 0) 1 22 := ⟨by decide +kernel, rfl⟩
theorem dX11_efficiency_22 : di cX11_efficiency 22 (.iload_n 1) 1 23 := ⟨by decide +kernel, rfl⟩
theorem dX11_efficiency_23 : di cX11_efficiency 23 (.iload_n 2) 1 24 := ⟨by decide +kernel, rfl⟩
theorem dX11_efficiency_24 : di cX11_efficiency 24 (.invokevirtual 235) 3 27 := ⟨by decide +kernel, rfl⟩
theorem dX11_efficiency_27 : di cX11_efficiency 27 (.istore_n 3) 1 28 := ⟨by decide +kernel, rfl⟩
theorem dX11_efficiency_28 : di cX11_efficiency 28 (.iload_n 3) 1 29 := ⟨by decide +kernel, rfl⟩
theorem dX11_efficiency_29 : dj cX11_efficiency 29 (.ifCond .ge) 32 40 := ⟨11, by decide +kernel, rfl, rfl⟩
theorem dX11_efficiency_32 : di cX11_efficiency 32 (.aload_n 0) 1 33 := ⟨by decide +kernel, rfl⟩
theorem dX11_efficiency_33 : di cX11_efficiency 33 (.iconst 2) 1 34 := ⟨by decide +kernel, rfl⟩
theorem dX11_efficiency_34 : di cX11_efficiency 34 (.invokevirtual 137) 3 37 := ⟨by decide +kernel, rfl⟩
theorem dX11_efficiency_37 : dj cX11_efficiency 37 .goto 40 41 := ⟨4, by decide +kernel, rfl, rfl⟩
theorem dX11_efficiency_40 : di cX11_efficiency 40 (.iload_n 3) 1 41 := ⟨by decide +kernel, rfl⟩
theorem dX11_efficiency_41 : di cX11_efficiency 41 (.ireturn) 1 42 := ⟨by decide +kernel, rfl⟩
def f_X11_efficiency (v1 : Int32) (v2 : Int32) (M : Mem) : Option Ret := bE (f_X11_isWorker v1 M) (fun r2 M1 => if r2 = 0 then (bE (f_X11_finding (1 : Int32) M1) (fun r4 M3 => some (r4, M3))) else (bE (f_X11_isJob v2 M1) (fun r6 M5 => if r6 = 0 then (bE (f_X11_finding (1 : Int32) M5) (fun r15 M14 => some (r15, M14))) else (bE (f_X11_efficiencyOf v1 v2 M5) (fun r8 M7 => jn (α := Int32 → Mem → Option Ret) (fun (z10 : Int32) (M11 : Mem) => some (z10, M11)) (fun J9 => if 0 ≤ r8 then (J9 r8 M7) else (bE (f_X11_finding (2 : Int32) M7) (fun r13 M12 => J9 r13 M12))))))))
set_option maxRecDepth 100000 in
theorem ok_X11_efficiency {l : Launch} {g : Cx} {v1 : Int32} {v2 : Int32} {M : Mem} {r : Int32} {Mr : Mem} (h : f_X11_efficiency v1 v2 M = some (r, Mr)) : CT l g yX11_efficiency cX11_efficiency 4 (some .int) 3 76 [.ref (g.1 11), .int v1, .int v2] M (PI r Mr) := by
  refine CT_of (lv := [some (.ref (g.1 11)), some (.int v1), some (.int v2), none]) (by decide) rfl (Nat.le_of_ble_eq_true rfl) ?_
  unfold f_X11_efficiency at h
  refine A_iload_n dX11_efficiency_0 rfl ?_
  obtain ⟨r2, M1, h1, h⟩ := bE_go h
  refine A_cSi1 dX11_efficiency_1 ml_X11_217 mb_X11_isWorker ms_X11_isWorker ⟨Nat.le_of_ble_eq_true rfl, Nat.le_of_ble_eq_true rfl⟩ (Nat.le_of_ble_eq_true rfl) (ok_X11_isWorker h1) ?_
  refine A_if_eq dX11_efficiency_4 (fun hc => ?_) (fun hc => ?_)
  · have h := gT_go hc h
    refine A_aload_n dX11_efficiency_15 rfl ?_
    refine A_iconst (v := 1) dX11_efficiency_16 (by decide) ?_
    obtain ⟨r4, M3, h1, h⟩ := bE_go h
    refine A_cVi1 dX11_efficiency_17 ml_X11_137 mb_X11_finding mi_X11_finding ob11 rfl rfl ⟨Nat.le_of_ble_eq_true rfl, Nat.le_of_ble_eq_true rfl⟩ (Nat.le_of_ble_eq_true rfl) (ok_X11_finding h1) ?_
    exact A_iret dX11_efficiency_20 (pI_go h)
  · have h := gF_go hc h
    refine A_aload_n dX11_efficiency_7 rfl ?_
    refine A_iload_n dX11_efficiency_8 rfl ?_
    obtain ⟨r6, M5, h1, h⟩ := bE_go h
    refine A_cVi1 dX11_efficiency_9 ml_X11_176 mb_X11_isJob mi_X11_isJob ob11 rfl rfl ⟨Nat.le_of_ble_eq_true rfl, Nat.le_of_ble_eq_true rfl⟩ (Nat.le_of_ble_eq_true rfl) (ok_X11_isJob h1) ?_
    refine A_if_ne dX11_efficiency_12 (fun hc => ?_) (fun hc => ?_)
    · have h := gF_go hc h
      refine A_aload_n dX11_efficiency_21 rfl ?_
      refine A_iload_n dX11_efficiency_22 rfl ?_
      refine A_iload_n dX11_efficiency_23 rfl ?_
      obtain ⟨r8, M7, h1, h⟩ := bE_go h
      refine A_cVi2 dX11_efficiency_24 ml_X11_235 mb_X11_efficiencyOf mi_X11_efficiencyOf ob11 rfl rfl ⟨Nat.le_of_ble_eq_true rfl, Nat.le_of_ble_eq_true rfl⟩ (Nat.le_of_ble_eq_true rfl) (ok_X11_efficiencyOf h1) ?_
      refine A_istoren3 dX11_efficiency_27 (by decide) rfl ?_
      refine A_iload_n dX11_efficiency_28 rfl ?_
      obtain ⟨J9, hJ9, h⟩ := jn_go h
      have JJ9 : ∀ (z10 : Int32) (M11 : Mem), J9 z10 M11 = some (r, Mr) → AT l g RX11 cX11_efficiency 4 (some .int) (rmM 3 76) (PI r Mr) 41 [some (.ref (g.1 11)), some (.int v1), some (.int v2), some (.int r8)] [.int z10] M11 := by
        intro z10 M11 h
        rw [hJ9] at h
        exact A_iret dX11_efficiency_41 (pI_go h)
      refine A_if_ge dX11_efficiency_29 (fun hc => ?_) (fun hc => ?_)
      · have h := gT_go hc h
        refine A_iload_n dX11_efficiency_40 rfl ?_
        exact A_le (lvLe_s (lvLe_s (lvLe_s (lvLe_s lvLe_0)))) (JJ9 _ _ h)
      · have h := gF_go hc h
        refine A_aload_n dX11_efficiency_32 rfl ?_
        refine A_iconst (v := 2) dX11_efficiency_33 (by decide) ?_
        obtain ⟨r13, M12, h1, h⟩ := bE_go h
        refine A_cVi1 dX11_efficiency_34 ml_X11_137 mb_X11_finding mi_X11_finding ob11 rfl rfl ⟨Nat.le_of_ble_eq_true rfl, Nat.le_of_ble_eq_true rfl⟩ (Nat.le_of_ble_eq_true rfl) (ok_X11_finding h1) ?_
        refine A_goto dX11_efficiency_37 ?_
        exact A_le (lvLe_s (lvLe_s (lvLe_s (lvLe_s lvLe_0)))) (JJ9 _ _ h)
    · have h := gT_go hc h
      refine A_aload_n dX11_efficiency_15 rfl ?_
      refine A_iconst (v := 1) dX11_efficiency_16 (by decide) ?_
      obtain ⟨r15, M14, h1, h⟩ := bE_go h
      refine A_cVi1 dX11_efficiency_17 ml_X11_137 mb_X11_finding mi_X11_finding ob11 rfl rfl ⟨Nat.le_of_ble_eq_true rfl, Nat.le_of_ble_eq_true rfl⟩ (Nat.le_of_ble_eq_true rfl) (ok_X11_finding h1) ?_
      exact A_iret dX11_efficiency_20 (pI_go h)
-- BenchTimesModel.ones
theorem dX11_ones_0 : di cX11_ones 0 (.iconst 0) 1 1 := ⟨by decide +kernel, rfl⟩
theorem dX11_ones_1 : di cX11_ones 1 (.istore_n 1) 1 2 := ⟨by decide +kernel, rfl⟩
theorem dX11_ones_2 : di cX11_ones 2 (.iconst 0) 1 3 := ⟨by decide +kernel, rfl⟩
theorem dX11_ones_3 : di cX11_ones 3 (.istore_n 2) 1 4 := ⟨by decide +kernel, rfl⟩
theorem dX11_ones_4 : di cX11_ones 4 (.iload_n 2) 1 5 := ⟨by decide +kernel, rfl⟩
theorem dX11_ones_5 : di cX11_ones 5 (.bipush 14) 2 7 := ⟨by decide +kernel, rfl⟩
theorem dX11_ones_7 : dj cX11_ones 7 (.if_icmp .ge) 10 24 := ⟨17, by decide +kernel, rfl, rfl⟩
theorem dX11_ones_10 : di cX11_ones 10 (.iload_n 1) 1 11 := ⟨by decide +kernel, rfl⟩
theorem dX11_ones_11 : di cX11_ones 11 (.iload_n 0) 1 12 := ⟨by decide +kernel, rfl⟩
theorem dX11_ones_12 : di cX11_ones 12 (.iload_n 2) 1 13 := ⟨by decide +kernel, rfl⟩
theorem dX11_ones_13 : di cX11_ones 13 (.ishr) 1 14 := ⟨by decide +kernel, rfl⟩
theorem dX11_ones_14 : di cX11_ones 14 (.iconst 1) 1 15 := ⟨by decide +kernel, rfl⟩
theorem dX11_ones_15 : di cX11_ones 15 (.iand) 1 16 := ⟨by decide +kernel, rfl⟩
theorem dX11_ones_16 : di cX11_ones 16 (.iadd) 1 17 := ⟨by decide +kernel, rfl⟩
theorem dX11_ones_17 : di cX11_ones 17 (.istore_n 1) 1 18 := ⟨by decide +kernel, rfl⟩
theorem dX11_ones_18 : di cX11_ones 18 (.iinc 2 1) 3 21 := ⟨by decide +kernel, rfl⟩
theorem dX11_ones_21 : dj cX11_ones 21 .goto 24 4 := ⟨-17, by decide +kernel, rfl, rfl⟩
theorem dX11_ones_24 : di cX11_ones 24 (.iload_n 1) 1 25 := ⟨by decide +kernel, rfl⟩
theorem dX11_ones_25 : di cX11_ones 25 (.ireturn) 1 26 := ⟨by decide +kernel, rfl⟩
def f_X11_ones_L4 (v0 : Int32) : Nat → Int32 → Int32 → Mem → (Int32 → Int32 → Mem → Option Ret) → Option Ret
  | 0, _, _, _, _ => none
  | k4 + 1, v1, v2, M, K4 => if (14 : Int32) ≤ v2 then (K4 v1 v2 M) else (bI (v1 + ((v0 >>> (v2 &&& 31)) &&& (1 : Int32))) (fun x1 => f_X11_ones_L4 v0 k4 x1 (v2 + (1 : Int32)) M K4))
set_option maxRecDepth 100000 in
theorem f_X11_ones_L4_ok {l : Launch} {g : Cx} (v0 : Int32)  {r : Int32} {Mr : Mem} : ∀ (k : Nat) (v1 : Int32) (v2 : Int32) (M : Mem) (K4 : Int32 → Int32 → Mem → Option Ret), f_X11_ones_L4 v0 k v1 v2 M K4 = some (r, Mr) → (∀ (v1 : Int32) (v2 : Int32) (M : Mem), K4 v1 v2 M = some (r, Mr) → AT l g RX11 cX11_ones 3 (some .int) (rmM 0 0) (PI r Mr) 24 [some (.int v0), some (.int v1), some (.int v2)] [] M) → AT l g RX11 cX11_ones 3 (some .int) (rmM 0 0) (PI r Mr) 4 [some (.int v0), some (.int v1), some (.int v2)] [] M
  | 0, v1, v2, M, K4, h, hK4 => by cases h
  | k4 + 1, v1, v2, M, K4, h, hK4 => by
    have ih4 := f_X11_ones_L4_ok (l := l) (g := g) v0 (r := r) (Mr := Mr) k4
    rw [f_X11_ones_L4] at h
    refine A_iload_n dX11_ones_4 rfl ?_
    refine A_bipush (v := 14) dX11_ones_5 (by decide) ?_
    refine A_icmp_ge dX11_ones_7 (fun hc => ?_) (fun hc => ?_)
    · have h := gT_go hc h
      exact A_le (lvLe_s (lvLe_s (lvLe_s lvLe_0))) (hK4 _ _ _ h)
    · have h := gF_go hc h
      refine A_iload_n dX11_ones_10 rfl ?_
      refine A_iload_n dX11_ones_11 rfl ?_
      refine A_iload_n dX11_ones_12 rfl ?_
      refine A_ishr dX11_ones_13 ?_
      refine A_iconst (v := 1) dX11_ones_14 (by decide) ?_
      refine A_iand dX11_ones_15 ?_
      refine A_iadd dX11_ones_16 ?_
      refine A_istoren1 dX11_ones_17 (by decide) rfl (bI_go h (G := fun z => AT l g RX11 cX11_ones 3 (some .int) (rmM 0 0) (PI r Mr) 18 [some (.int v0), some (.int z), some (.int v2)] [] M) (fun x1 h => ?_))
      refine A_iinc2 (d := 1) dX11_ones_18 (by decide) (by decide) rfl ?_
      refine A_goto dX11_ones_21 ?_
      exact A_le (lvLe_s (lvLe_s (lvLe_s lvLe_0))) (ih4 _ _ _ K4 h hK4)
def f_X11_ones (v0 : Int32) (M : Mem) : Option Ret := f_X11_ones_L4 v0 FU (0 : Int32) (0 : Int32) M (fun w2 w3 M4 => some (w2, M4))
set_option maxRecDepth 100000 in
theorem ok_X11_ones {l : Launch} {g : Cx} {v0 : Int32} {M : Mem} {r : Int32} {Mr : Mem} (h : f_X11_ones v0 M = some (r, Mr)) : CT l g yX11_ones cX11_ones 3 (some .int) 0 0 [.int v0] M (PI r Mr) := by
  refine CT_of (lv := [some (.int v0), none, none]) (by decide) rfl (Nat.le_of_ble_eq_true rfl) ?_
  unfold f_X11_ones at h
  refine A_iconst (v := 0) dX11_ones_0 (by decide) ?_
  refine A_istoren1 dX11_ones_1 (by decide) rfl ?_
  refine A_iconst (v := 0) dX11_ones_2 (by decide) ?_
  refine A_istoren2 dX11_ones_3 (by decide) rfl ?_
  refine f_X11_ones_L4_ok _ FU _ _ _ _ h (fun w2 w3 M4 h => ?_)
  refine A_iload_n dX11_ones_24 rfl ?_
  exact A_iret dX11_ones_25 (pI_go h)
-- BenchTimesModel.isLooser
theorem dX11_isLooser_0 : di cX11_isLooser 0 (.iconst 0) 1 1 := ⟨by decide +kernel, rfl⟩
theorem dX11_isLooser_1 : di cX11_isLooser 1 (.istore_n 3) 1 2 := ⟨by decide +kernel, rfl⟩
theorem dX11_isLooser_2 : di cX11_isLooser 2 (.iconst 0) 1 3 := ⟨by decide +kernel, rfl⟩
theorem dX11_isLooser_3 : di cX11_isLooser 3 (.istore 4) 2 5 := ⟨by decide +kernel, rfl⟩
theorem dX11_isLooser_5 : di cX11_isLooser 5 (.iconst 0) 1 6 := ⟨by decide +kernel, rfl⟩
theorem dX11_isLooser_6 : di cX11_isLooser 6 (.istore 5) 2 8 := ⟨by decide +kernel, rfl⟩
theorem dX11_isLooser_8 : di cX11_isLooser 8 (.iload 5) 2 10 := ⟨by decide +kernel, rfl⟩
theorem dX11_isLooser_10 : di cX11_isLooser 10 (.bipush 8) 2 12 := ⟨by decide +kernel, rfl⟩
theorem dX11_isLooser_12 : dj cX11_isLooser 12 (.if_icmp .ge) 15 91 := ⟨79, by decide +kernel, rfl, rfl⟩
theorem dX11_isLooser_15 : di cX11_isLooser 15 (.aload_n 0) 1 16 := ⟨by decide +kernel, rfl⟩
theorem dX11_isLooser_16 : di cX11_isLooser 16 (.iload 5) 2 18 := ⟨by decide +kernel, rfl⟩
theorem dX11_isLooser_18 : di cX11_isLooser 18 (.iload_n 1) 1 19 := ⟨by decide +kernel, rfl⟩
theorem dX11_isLooser_19 : di cX11_isLooser 19 (.invokevirtual 235) 3 22 := ⟨by decide +kernel, rfl⟩
theorem dX11_isLooser_22 : di cX11_isLooser 22 (.istore 6) 2 24 := ⟨by decide +kernel, rfl⟩
theorem dX11_isLooser_24 : di cX11_isLooser 24 (.aload_n 0) 1 25 := ⟨by decide +kernel, rfl⟩
theorem dX11_isLooser_25 : di cX11_isLooser 25 (.iload 5) 2 27 := ⟨by decide +kernel, rfl⟩
theorem dX11_isLooser_27 : di cX11_isLooser 27 (.iload_n 2) 1 28 := ⟨by decide +kernel, rfl⟩
theorem dX11_isLooser_28 : di cX11_isLooser 28 (.invokevirtual 235) 3 31 := ⟨by decide +kernel, rfl⟩
theorem dX11_isLooser_31 : di cX11_isLooser 31 (.istore 7) 2 33 := ⟨by decide +kernel, rfl⟩
theorem dX11_isLooser_33 : di cX11_isLooser 33 (.iload_n 3) 1 34 := ⟨by decide +kernel, rfl⟩
theorem dX11_isLooser_34 : di cX11_isLooser 34 (.iload 6) 2 36 := ⟨by decide +kernel, rfl⟩
theorem dX11_isLooser_36 : dj cX11_isLooser 36 (.ifCond .lt) 39 55 := ⟨19, by decide +kernel, rfl, rfl⟩
theorem dX11_isLooser_39 : di cX11_isLooser 39 (.iload 7) 2 41 := ⟨by decide +kernel, rfl⟩
theorem dX11_isLooser_41 : dj cX11_isLooser 41 (.ifCond .lt) 44 55 := ⟨14, by decide +kernel, rfl, rfl⟩
theorem dX11_isLooser_44 : di cX11_isLooser 44 (.iload 6) 2 46 := ⟨by decide +kernel, rfl⟩
theorem dX11_isLooser_46 : di cX11_isLooser 46 (.iload 7) 2 48 := ⟨by decide +kernel, rfl⟩
theorem dX11_isLooser_48 : dj cX11_isLooser 48 (.if_icmp .eq) 51 55 := ⟨7, by decide +kernel, rfl, rfl⟩
theorem dX11_isLooser_51 : di cX11_isLooser 51 (.iconst 1) 1 52 := ⟨by decide +kernel, rfl⟩
theorem dX11_isLooser_52 : dj cX11_isLooser 52 .goto 55 56 := ⟨4, by decide +kernel, rfl, rfl⟩
theorem dX11_isLooser_55 : di cX11_isLooser 55 (.iconst 0) 1 56 := ⟨by decide +kernel, rfl⟩
theorem dX11_isLooser_56 : di cX11_isLooser 56 (.iadd) 1 57 := ⟨by decide +kernel, rfl⟩
theorem dX11_isLooser_57 : di cX11_isLooser 57 (.istore_n 3) 1 58 := ⟨by decide +kernel, rfl⟩
theorem dX11_isLooser_58 : di cX11_isLooser 58 (.iload 4) 2 60 := ⟨by decide +kernel, rfl⟩
theorem dX11_isLooser_60 : di cX11_isLooser 60 (.iload 6) 2 62 := ⟨by decide +kernel, rfl⟩
theorem dX11_isLooser_62 : dj cX11_isLooser 62 (.ifCond .lt) 65 81 := ⟨19, by decide +kernel, rfl, rfl⟩
theorem dX11_isLooser_65 : di cX11_isLooser 65 (.iload 7) 2 67 := ⟨by decide +kernel, rfl⟩
theorem dX11_isLooser_67 : dj cX11_isLooser 67 (.ifCond .lt) 70 81 := ⟨14, by decide +kernel, rfl, rfl⟩
theorem dX11_isLooser_70 : di cX11_isLooser 70 (.iload 6) 2 72 := ⟨by decide +kernel, rfl⟩
theorem dX11_isLooser_72 : di cX11_isLooser 72 (.iload 7) 2 74 := ⟨by decide +kernel, rfl⟩
theorem dX11_isLooser_74 : dj cX11_isLooser 74 (.if_icmp .le) 77 81 := ⟨7, by decide +kernel, rfl, rfl⟩
theorem dX11_isLooser_77 : di cX11_isLooser 77 (.iconst 1) 1 78 := ⟨by decide +kernel, rfl⟩
theorem dX11_isLooser_78 : dj cX11_isLooser 78 .goto 81 82 := ⟨4, by decide +kernel, rfl, rfl⟩
theorem dX11_isLooser_81 : di cX11_isLooser 81 (.iconst 0) 1 82 := ⟨by decide +kernel, rfl⟩
theorem dX11_isLooser_82 : di cX11_isLooser 82 (.iadd) 1 83 := ⟨by decide +kernel, rfl⟩
theorem dX11_isLooser_83 : di cX11_isLooser 83 (.istore 4) 2 85 := ⟨by decide +kernel, rfl⟩
theorem dX11_isLooser_85 : di cX11_isLooser 85 (.iinc 5 1) 3 88 := ⟨by decide +kernel, rfl⟩
theorem dX11_isLooser_88 : dj cX11_isLooser 88 .goto 91 8 := ⟨-80, by decide +kernel, rfl, rfl⟩
theorem dX11_isLooser_91 : di cX11_isLooser 91 (.iconst 0) 1 92 := ⟨by decide +kernel, rfl⟩
theorem dX11_isLooser_92 : di cX11_isLooser 92 (.istore 5) 2 94 := ⟨by decide +kernel, rfl⟩
theorem dX11_isLooser_94 : di cX11_isLooser 94 (.iconst 0) 1 95 := ⟨by decide +kernel, rfl⟩
theorem dX11_isLooser_95 : di cX11_isLooser 95 (.istore 6) 2 97 := ⟨by decide +kernel, rfl⟩
theorem dX11_isLooser_97 : di cX11_isLooser 97 (.iload 6) 2 99 := ⟨by decide +kernel, rfl⟩
theorem dX11_isLooser_99 : di cX11_isLooser 99 (.iconst 1) 1 100 := ⟨by decide +kernel, rfl⟩
theorem dX11_isLooser_100 : di cX11_isLooser 100 (.iload_n 3) 1 101 := ⟨by decide +kernel, rfl⟩
theorem dX11_isLooser_101 : di cX11_isLooser 101 (.ishl) 1 102 := ⟨by decide +kernel, rfl⟩
theorem dX11_isLooser_102 : dj cX11_isLooser 102 (.if_icmp .ge) 105 131 := ⟨29, by decide +kernel, rfl, rfl⟩
theorem dX11_isLooser_105 : di cX11_isLooser 105 (.iload 5) 2 107 := ⟨by decide +kernel, rfl⟩
theorem dX11_isLooser_107 : di cX11_isLooser 107 (.iload 6) 2 109 := ⟨by decide +kernel, rfl⟩
theorem dX11_isLooser_109 : di cX11_isLooser 109 (.invokestatic 238) 3 112 := ⟨by decide +kernel, rfl⟩
theorem dX11_isLooser_112 : di cX11_isLooser 112 (.iload 4) 2 114 := ⟨by decide +kernel, rfl⟩
theorem dX11_isLooser_114 : dj cX11_isLooser 114 (.if_icmp .lt) 117 121 := ⟨7, by decide +kernel, rfl, rfl⟩
theorem dX11_isLooser_117 : di cX11_isLooser 117 (.iconst 1) 1 118 := ⟨by decide +kernel, rfl⟩
theorem dX11_isLooser_118 : dj cX11_isLooser 118 .goto 121 122 := ⟨4, by decide +kernel, rfl, rfl⟩
theorem dX11_isLooser_121 : di cX11_isLooser 121 (.iconst 0) 1 122 := ⟨by decide +kernel, rfl⟩
theorem dX11_isLooser_122 : di cX11_isLooser 122 (.iadd) 1 123 := ⟨by decide +kernel, rfl⟩
theorem dX11_isLooser_123 : di cX11_isLooser 123 (.istore 5) 2 125 := ⟨by decide +kernel, rfl⟩
theorem dX11_isLooser_125 : di cX11_isLooser 125 (.iinc 6 1) 3 128 := ⟨by decide +kernel, rfl⟩
theorem dX11_isLooser_128 : dj cX11_isLooser 128 .goto 131 97 := ⟨-31, by decide +kernel, rfl, rfl⟩
theorem dX11_isLooser_131 : di cX11_isLooser 131 (.iload_n 3) 1 132 := ⟨by decide +kernel, rfl⟩
theorem dX11_isLooser_132 : dj cX11_isLooser 132 (.ifCond .le) 135 150 := ⟨18, by decide +kernel, rfl, rfl⟩
theorem dX11_isLooser_135 : di cX11_isLooser 135 (.bipush 20) 2 137 := ⟨by decide +kernel, rfl⟩
theorem dX11_isLooser_137 : di cX11_isLooser 137 (.iload 5) 2 139 := ⟨by decide +kernel, rfl⟩
theorem dX11_isLooser_139 : di cX11_isLooser 139 (.imul) 1 140 := ⟨by decide +kernel, rfl⟩
theorem dX11_isLooser_140 : di cX11_isLooser 140 (.iconst 1) 1 141 := ⟨by decide +kernel, rfl⟩
theorem dX11_isLooser_141 : di cX11_isLooser 141 (.iload_n 3) 1 142 := ⟨by decide +kernel, rfl⟩
theorem dX11_isLooser_142 : di cX11_isLooser 142 (.ishl) 1 143 := ⟨by decide +kernel, rfl⟩
theorem dX11_isLooser_143 : dj cX11_isLooser 143 (.if_icmp .gt) 146 150 := ⟨7, by decide +kernel, rfl, rfl⟩
theorem dX11_isLooser_146 : di cX11_isLooser 146 (.iconst 1) 1 147 := ⟨by decide +kernel, rfl⟩
theorem dX11_isLooser_147 : dj cX11_isLooser 147 .goto 150 151 := ⟨4, by decide +kernel, rfl, rfl⟩
theorem dX11_isLooser_150 : di cX11_isLooser 150 (.iconst 0) 1 151 := ⟨by decide +kernel, rfl⟩
theorem dX11_isLooser_151 : di cX11_isLooser 151 (.ireturn) 1 152 := ⟨by decide +kernel, rfl⟩
def f_X11_isLooser_L8 (v1 : Int32) (v2 : Int32) : Nat → Int32 → Int32 → Int32 → Mem → (Int32 → Int32 → Int32 → Mem → Option Ret) → Option Ret
  | 0, _, _, _, _, _ => none
  | k8 + 1, v3, v4, v5, M, K8 => if (8 : Int32) ≤ v5 then (K8 v3 v4 v5 M) else (bE (f_X11_efficiencyOf v5 v1 M) (fun r2 M1 => bE (f_X11_efficiencyOf v5 v2 M1) (fun r4 M3 => jn (α := Int32 → Option Ret) (fun (z6 : Int32) => bI (v3 + z6) (fun x7 => jn (α := Int32 → Option Ret) (fun (z9 : Int32) => bI (v4 + z9) (fun x10 => f_X11_isLooser_L8 v1 v2 k8 x7 x10 (v5 + (1 : Int32)) M3 K8)) (fun J8 => if r2 < 0 then (J8 (0 : Int32)) else (if r4 < 0 then (J8 (0 : Int32)) else (if r2 ≤ r4 then (J8 (0 : Int32)) else (J8 (1 : Int32))))))) (fun J5 => if r2 < 0 then (J5 (0 : Int32)) else (if r4 < 0 then (J5 (0 : Int32)) else (if r2 = r4 then (J5 (0 : Int32)) else (J5 (1 : Int32))))))))
set_option maxRecDepth 100000 in
theorem f_X11_isLooser_L8_ok {l : Launch} {g : Cx} (v1 : Int32) (v2 : Int32)  {r : Int32} {Mr : Mem} : ∀ (k : Nat) (v3 : Int32) (v4 : Int32) (v5 : Int32) (M : Mem) (K8 : Int32 → Int32 → Int32 → Mem → Option Ret), f_X11_isLooser_L8 v1 v2 k v3 v4 v5 M K8 = some (r, Mr) → (∀ (v3 : Int32) (v4 : Int32) (v5 : Int32) (M : Mem), K8 v3 v4 v5 M = some (r, Mr) → AT l g RX11 cX11_isLooser 8 (some .boolean) (rmM 3 76) (PI r Mr) 91 [some (.ref (g.1 11)), some (.int v1), some (.int v2), some (.int v3), some (.int v4), some (.int v5), none, none] [] M) → AT l g RX11 cX11_isLooser 8 (some .boolean) (rmM 3 76) (PI r Mr) 8 [some (.ref (g.1 11)), some (.int v1), some (.int v2), some (.int v3), some (.int v4), some (.int v5), none, none] [] M
  | 0, v3, v4, v5, M, K8, h, hK8 => by cases h
  | k8 + 1, v3, v4, v5, M, K8, h, hK8 => by
    have ih8 := f_X11_isLooser_L8_ok (l := l) (g := g) v1 v2 (r := r) (Mr := Mr) k8
    rw [f_X11_isLooser_L8] at h
    refine A_iload dX11_isLooser_8 rfl ?_
    refine A_bipush (v := 8) dX11_isLooser_10 (by decide) ?_
    refine A_icmp_ge dX11_isLooser_12 (fun hc => ?_) (fun hc => ?_)
    · have h := gT_go hc h
      exact A_le (lvLe_s (lvLe_s (lvLe_s (lvLe_s (lvLe_s (lvLe_s (lvLe_n (lvLe_n lvLe_0)))))))) (hK8 _ _ _ _ h)
    · have h := gF_go hc h
      refine A_aload_n dX11_isLooser_15 rfl ?_
      refine A_iload dX11_isLooser_16 rfl ?_
      refine A_iload_n dX11_isLooser_18 rfl ?_
      obtain ⟨r2, M1, h1, h⟩ := bE_go h
      refine A_cVi2 dX11_isLooser_19 ml_X11_235 mb_X11_efficiencyOf mi_X11_efficiencyOf ob11 rfl rfl ⟨Nat.le_of_ble_eq_true rfl, Nat.le_of_ble_eq_true rfl⟩ (Nat.le_of_ble_eq_true rfl) (ok_X11_efficiencyOf h1) ?_
      refine A_istore6 dX11_isLooser_22 (by decide) rfl ?_
      refine A_aload_n dX11_isLooser_24 rfl ?_
      refine A_iload dX11_isLooser_25 rfl ?_
      refine A_iload_n dX11_isLooser_27 rfl ?_
      obtain ⟨r4, M3, h1, h⟩ := bE_go h
      refine A_cVi2 dX11_isLooser_28 ml_X11_235 mb_X11_efficiencyOf mi_X11_efficiencyOf ob11 rfl rfl ⟨Nat.le_of_ble_eq_true rfl, Nat.le_of_ble_eq_true rfl⟩ (Nat.le_of_ble_eq_true rfl) (ok_X11_efficiencyOf h1) ?_
      refine A_istore7 dX11_isLooser_31 (by decide) rfl ?_
      refine A_iload_n dX11_isLooser_33 rfl ?_
      refine A_iload dX11_isLooser_34 rfl ?_
      obtain ⟨J5, hJ5, h⟩ := jn_go h
      have JJ5 : ∀ (z6 : Int32), J5 z6 = some (r, Mr) → AT l g RX11 cX11_isLooser 8 (some .boolean) (rmM 3 76) (PI r Mr) 56 [some (.ref (g.1 11)), some (.int v1), some (.int v2), some (.int v3), some (.int v4), some (.int v5), some (.int r2), some (.int r4)] [.int z6, .int v3] M3 := by
        intro z6 h
        rw [hJ5] at h
        refine A_iadd dX11_isLooser_56 ?_
        refine A_istoren3 dX11_isLooser_57 (by decide) rfl (bI_go h (G := fun z => AT l g RX11 cX11_isLooser 8 (some .boolean) (rmM 3 76) (PI r Mr) 58 [some (.ref (g.1 11)), some (.int v1), some (.int v2), some (.int z), some (.int v4), some (.int v5), some (.int r2), some (.int r4)] [] M3) (fun x7 h => ?_))
        refine A_iload dX11_isLooser_58 rfl ?_
        refine A_iload dX11_isLooser_60 rfl ?_
        obtain ⟨J8, hJ8, h⟩ := jn_go h
        have JJ8 : ∀ (z9 : Int32), J8 z9 = some (r, Mr) → AT l g RX11 cX11_isLooser 8 (some .boolean) (rmM 3 76) (PI r Mr) 82 [some (.ref (g.1 11)), some (.int v1), some (.int v2), some (.int x7), some (.int v4), some (.int v5), some (.int r2), some (.int r4)] [.int z9, .int v4] M3 := by
          intro z9 h
          rw [hJ8] at h
          refine A_iadd dX11_isLooser_82 ?_
          refine A_istore4 dX11_isLooser_83 (by decide) rfl (bI_go h (G := fun z => AT l g RX11 cX11_isLooser 8 (some .boolean) (rmM 3 76) (PI r Mr) 85 [some (.ref (g.1 11)), some (.int v1), some (.int v2), some (.int x7), some (.int z), some (.int v5), some (.int r2), some (.int r4)] [] M3) (fun x10 h => ?_))
          refine A_iinc5 (d := 1) dX11_isLooser_85 (by decide) (by decide) rfl ?_
          refine A_goto dX11_isLooser_88 ?_
          exact A_le (lvLe_s (lvLe_s (lvLe_s (lvLe_s (lvLe_s (lvLe_s (lvLe_n (lvLe_n lvLe_0)))))))) (ih8 _ _ _ _ K8 h hK8)
        refine A_if_lt dX11_isLooser_62 (fun hc => ?_) (fun hc => ?_)
        · have h := gT_go hc h
          refine A_iconst (v := 0) dX11_isLooser_81 (by decide) ?_
          exact A_le (lvLe_s (lvLe_s (lvLe_s (lvLe_s (lvLe_s (lvLe_s (lvLe_s (lvLe_s lvLe_0)))))))) (JJ8 _ h)
        · have h := gF_go hc h
          refine A_iload dX11_isLooser_65 rfl ?_
          refine A_if_lt dX11_isLooser_67 (fun hc => ?_) (fun hc => ?_)
          · have h := gT_go hc h
            refine A_iconst (v := 0) dX11_isLooser_81 (by decide) ?_
            exact A_le (lvLe_s (lvLe_s (lvLe_s (lvLe_s (lvLe_s (lvLe_s (lvLe_s (lvLe_s lvLe_0)))))))) (JJ8 _ h)
          · have h := gF_go hc h
            refine A_iload dX11_isLooser_70 rfl ?_
            refine A_iload dX11_isLooser_72 rfl ?_
            refine A_icmp_le dX11_isLooser_74 (fun hc => ?_) (fun hc => ?_)
            · have h := gT_go hc h
              refine A_iconst (v := 0) dX11_isLooser_81 (by decide) ?_
              exact A_le (lvLe_s (lvLe_s (lvLe_s (lvLe_s (lvLe_s (lvLe_s (lvLe_s (lvLe_s lvLe_0)))))))) (JJ8 _ h)
            · have h := gF_go hc h
              refine A_iconst (v := 1) dX11_isLooser_77 (by decide) ?_
              refine A_goto dX11_isLooser_78 ?_
              exact A_le (lvLe_s (lvLe_s (lvLe_s (lvLe_s (lvLe_s (lvLe_s (lvLe_s (lvLe_s lvLe_0)))))))) (JJ8 _ h)
      refine A_if_lt dX11_isLooser_36 (fun hc => ?_) (fun hc => ?_)
      · have h := gT_go hc h
        refine A_iconst (v := 0) dX11_isLooser_55 (by decide) ?_
        exact A_le (lvLe_s (lvLe_s (lvLe_s (lvLe_s (lvLe_s (lvLe_s (lvLe_s (lvLe_s lvLe_0)))))))) (JJ5 _ h)
      · have h := gF_go hc h
        refine A_iload dX11_isLooser_39 rfl ?_
        refine A_if_lt dX11_isLooser_41 (fun hc => ?_) (fun hc => ?_)
        · have h := gT_go hc h
          refine A_iconst (v := 0) dX11_isLooser_55 (by decide) ?_
          exact A_le (lvLe_s (lvLe_s (lvLe_s (lvLe_s (lvLe_s (lvLe_s (lvLe_s (lvLe_s lvLe_0)))))))) (JJ5 _ h)
        · have h := gF_go hc h
          refine A_iload dX11_isLooser_44 rfl ?_
          refine A_iload dX11_isLooser_46 rfl ?_
          refine A_icmp_eq dX11_isLooser_48 (fun hc => ?_) (fun hc => ?_)
          · have h := gT_go hc h
            refine A_iconst (v := 0) dX11_isLooser_55 (by decide) ?_
            exact A_le (lvLe_s (lvLe_s (lvLe_s (lvLe_s (lvLe_s (lvLe_s (lvLe_s (lvLe_s lvLe_0)))))))) (JJ5 _ h)
          · have h := gF_go hc h
            refine A_iconst (v := 1) dX11_isLooser_51 (by decide) ?_
            refine A_goto dX11_isLooser_52 ?_
            exact A_le (lvLe_s (lvLe_s (lvLe_s (lvLe_s (lvLe_s (lvLe_s (lvLe_s (lvLe_s lvLe_0)))))))) (JJ5 _ h)
def f_X11_isLooser_L97 (v1 : Int32) (v2 : Int32) (v3 : Int32) (v4 : Int32) : Nat → Int32 → Int32 → Mem → (Int32 → Int32 → Mem → Option Ret) → Option Ret
  | 0, _, _, _, _ => none
  | k97 + 1, v5, v6, M, K97 => if ((1 : Int32) <<< (v3 &&& 31)) ≤ v6 then (K97 v5 v6 M) else (bE (f_X11_ones v6 M) (fun r16 M15 => jn (α := Int32 → Option Ret) (fun (z18 : Int32) => bI (v5 + z18) (fun x19 => f_X11_isLooser_L97 v1 v2 v3 v4 k97 x19 (v6 + (1 : Int32)) M15 K97)) (fun J17 => if r16 < v4 then (J17 (0 : Int32)) else (J17 (1 : Int32)))))
set_option maxRecDepth 100000 in
theorem f_X11_isLooser_L97_ok {l : Launch} {g : Cx} (v1 : Int32) (v2 : Int32) (v3 : Int32) (v4 : Int32)  {r : Int32} {Mr : Mem} : ∀ (k : Nat) (v5 : Int32) (v6 : Int32) (M : Mem) (K97 : Int32 → Int32 → Mem → Option Ret), f_X11_isLooser_L97 v1 v2 v3 v4 k v5 v6 M K97 = some (r, Mr) → (∀ (v5 : Int32) (v6 : Int32) (M : Mem), K97 v5 v6 M = some (r, Mr) → AT l g RX11 cX11_isLooser 8 (some .boolean) (rmM 3 76) (PI r Mr) 131 [some (.ref (g.1 11)), some (.int v1), some (.int v2), some (.int v3), some (.int v4), some (.int v5), some (.int v6), none] [] M) → AT l g RX11 cX11_isLooser 8 (some .boolean) (rmM 3 76) (PI r Mr) 97 [some (.ref (g.1 11)), some (.int v1), some (.int v2), some (.int v3), some (.int v4), some (.int v5), some (.int v6), none] [] M
  | 0, v5, v6, M, K97, h, hK97 => by cases h
  | k97 + 1, v5, v6, M, K97, h, hK97 => by
    have ih97 := f_X11_isLooser_L97_ok (l := l) (g := g) v1 v2 v3 v4 (r := r) (Mr := Mr) k97
    rw [f_X11_isLooser_L97] at h
    refine A_iload dX11_isLooser_97 rfl ?_
    refine A_iconst (v := 1) dX11_isLooser_99 (by decide) ?_
    refine A_iload_n dX11_isLooser_100 rfl ?_
    refine A_ishl dX11_isLooser_101 ?_
    refine A_icmp_ge dX11_isLooser_102 (fun hc => ?_) (fun hc => ?_)
    · have h := gT_go hc h
      exact A_le (lvLe_s (lvLe_s (lvLe_s (lvLe_s (lvLe_s (lvLe_s (lvLe_s (lvLe_n lvLe_0)))))))) (hK97 _ _ _ h)
    · have h := gF_go hc h
      refine A_iload dX11_isLooser_105 rfl ?_
      refine A_iload dX11_isLooser_107 rfl ?_
      obtain ⟨r16, M15, h1, h⟩ := bE_go h
      refine A_cSi1 dX11_isLooser_109 ml_X11_238 mb_X11_ones ms_X11_ones ⟨Nat.le_of_ble_eq_true rfl, Nat.le_of_ble_eq_true rfl⟩ (Nat.le_of_ble_eq_true rfl) (ok_X11_ones h1) ?_
      refine A_iload dX11_isLooser_112 rfl ?_
      obtain ⟨J17, hJ17, h⟩ := jn_go h
      have JJ17 : ∀ (z18 : Int32), J17 z18 = some (r, Mr) → AT l g RX11 cX11_isLooser 8 (some .boolean) (rmM 3 76) (PI r Mr) 122 [some (.ref (g.1 11)), some (.int v1), some (.int v2), some (.int v3), some (.int v4), some (.int v5), some (.int v6), none] [.int z18, .int v5] M15 := by
        intro z18 h
        rw [hJ17] at h
        refine A_iadd dX11_isLooser_122 ?_
        refine A_istore5 dX11_isLooser_123 (by decide) rfl (bI_go h (G := fun z => AT l g RX11 cX11_isLooser 8 (some .boolean) (rmM 3 76) (PI r Mr) 125 [some (.ref (g.1 11)), some (.int v1), some (.int v2), some (.int v3), some (.int v4), some (.int z), some (.int v6), none] [] M15) (fun x19 h => ?_))
        refine A_iinc6 (d := 1) dX11_isLooser_125 (by decide) (by decide) rfl ?_
        refine A_goto dX11_isLooser_128 ?_
        exact A_le (lvLe_s (lvLe_s (lvLe_s (lvLe_s (lvLe_s (lvLe_s (lvLe_s (lvLe_n lvLe_0)))))))) (ih97 _ _ _ K97 h hK97)
      refine A_icmp_lt dX11_isLooser_114 (fun hc => ?_) (fun hc => ?_)
      · have h := gT_go hc h
        refine A_iconst (v := 0) dX11_isLooser_121 (by decide) ?_
        exact A_le (lvLe_s (lvLe_s (lvLe_s (lvLe_s (lvLe_s (lvLe_s (lvLe_s (lvLe_n lvLe_0)))))))) (JJ17 _ h)
      · have h := gF_go hc h
        refine A_iconst (v := 1) dX11_isLooser_117 (by decide) ?_
        refine A_goto dX11_isLooser_118 ?_
        exact A_le (lvLe_s (lvLe_s (lvLe_s (lvLe_s (lvLe_s (lvLe_s (lvLe_s (lvLe_n lvLe_0)))))))) (JJ17 _ h)
def f_X11_isLooser (v1 : Int32) (v2 : Int32) (M : Mem) : Option Ret := f_X11_isLooser_L8 v1 v2 FU (0 : Int32) (0 : Int32) (0 : Int32) M (fun w11 w12 w13 M14 => f_X11_isLooser_L97 v1 v2 w11 w12 FU (0 : Int32) (0 : Int32) M14 (fun w20 w21 M22 => jn (α := Int32 → Option Ret) (fun (z24 : Int32) => gZ z24 (some (z24, M22))) (fun J23 => if w11 ≤ 0 then (J23 (0 : Int32)) else (if ((1 : Int32) <<< (w11 &&& 31)) < ((20 : Int32) * w20) then (J23 (0 : Int32)) else (J23 (1 : Int32))))))
set_option maxRecDepth 100000 in
theorem ok_X11_isLooser {l : Launch} {g : Cx} {v1 : Int32} {v2 : Int32} {M : Mem} {r : Int32} {Mr : Mem} (h : f_X11_isLooser v1 v2 M = some (r, Mr)) : CT l g yX11_isLooser cX11_isLooser 8 (some .boolean) 3 76 [.ref (g.1 11), .int v1, .int v2] M (PI r Mr) := by
  refine CT_of (lv := [some (.ref (g.1 11)), some (.int v1), some (.int v2), none, none, none, none, none]) (by decide) rfl (Nat.le_of_ble_eq_true rfl) ?_
  unfold f_X11_isLooser at h
  refine A_iconst (v := 0) dX11_isLooser_0 (by decide) ?_
  refine A_istoren3 dX11_isLooser_1 (by decide) rfl ?_
  refine A_iconst (v := 0) dX11_isLooser_2 (by decide) ?_
  refine A_istore4 dX11_isLooser_3 (by decide) rfl ?_
  refine A_iconst (v := 0) dX11_isLooser_5 (by decide) ?_
  refine A_istore5 dX11_isLooser_6 (by decide) rfl ?_
  refine f_X11_isLooser_L8_ok _ _ FU _ _ _ _ _ h (fun w11 w12 w13 M14 h => ?_)
  refine A_iconst (v := 0) dX11_isLooser_91 (by decide) ?_
  refine A_istore5 dX11_isLooser_92 (by decide) rfl ?_
  refine A_iconst (v := 0) dX11_isLooser_94 (by decide) ?_
  refine A_istore6 dX11_isLooser_95 (by decide) rfl ?_
  refine f_X11_isLooser_L97_ok _ _ _ _ FU _ _ _ _ h (fun w20 w21 M22 h => ?_)
  refine A_iload_n dX11_isLooser_131 rfl ?_
  obtain ⟨J23, hJ23, h⟩ := jn_go h
  have JJ23 : ∀ (z24 : Int32), J23 z24 = some (r, Mr) → AT l g RX11 cX11_isLooser 8 (some .boolean) (rmM 3 76) (PI r Mr) 151 [some (.ref (g.1 11)), some (.int v1), some (.int v2), some (.int w11), some (.int w12), some (.int w20), some (.int w21), none] [.int z24] M22 := by
    intro z24 h
    rw [hJ23] at h
    obtain ⟨hg, h⟩ := gZ_go h
    exact A_zret dX11_isLooser_151 hg (pI_go h)
  refine A_if_le dX11_isLooser_132 (fun hc => ?_) (fun hc => ?_)
  · have h := gT_go hc h
    refine A_iconst (v := 0) dX11_isLooser_150 (by decide) ?_
    exact A_le (lvLe_s (lvLe_s (lvLe_s (lvLe_s (lvLe_s (lvLe_s (lvLe_s (lvLe_n lvLe_0)))))))) (JJ23 _ h)
  · have h := gF_go hc h
    refine A_bipush (v := 20) dX11_isLooser_135 (by decide) ?_
    refine A_iload dX11_isLooser_137 rfl ?_
    refine A_imul dX11_isLooser_139 ?_
    refine A_iconst (v := 1) dX11_isLooser_140 (by decide) ?_
    refine A_iload_n dX11_isLooser_141 rfl ?_
    refine A_ishl dX11_isLooser_142 ?_
    refine A_icmp_gt dX11_isLooser_143 (fun hc => ?_) (fun hc => ?_)
    · have h := gT_go hc h
      refine A_iconst (v := 0) dX11_isLooser_150 (by decide) ?_
      exact A_le (lvLe_s (lvLe_s (lvLe_s (lvLe_s (lvLe_s (lvLe_s (lvLe_s (lvLe_n lvLe_0)))))))) (JJ23 _ h)
    · have h := gF_go hc h
      refine A_iconst (v := 1) dX11_isLooser_146 (by decide) ?_
      refine A_goto dX11_isLooser_147 ?_
      exact A_le (lvLe_s (lvLe_s (lvLe_s (lvLe_s (lvLe_s (lvLe_s (lvLe_s (lvLe_n lvLe_0)))))))) (JJ23 _ h)
-- BenchTimesModel.looser
theorem dX11_looser_0 : di cX11_looser 0 (.aload_n 0) 1 1 := ⟨by decide +kernel, rfl⟩
theorem dX11_looser_1 : di cX11_looser 1 (.iload_n 1) 1 2 := ⟨by decide +kernel, rfl⟩
theorem dX11_looser_2 : di cX11_looser 2 (.invokevirtual 176) 3 5 := ⟨by decide +kernel, rfl⟩
theorem dX11_looser_5 : dj cX11_looser 5 (.ifCond .eq) 8 21 := ⟨16, by decide +kernel, rfl, rfl⟩
theorem dX11_looser_8 : di cX11_looser 8 (.aload_n 0) 1 9 := ⟨by decide +kernel, rfl⟩
theorem dX11_looser_9 : di cX11_looser 9 (.iload_n 2) 1 10 := ⟨by decide +kernel, rfl⟩
theorem dX11_looser_10 : di cX11_looser 10 (.invokevirtual 176) 3 13 := ⟨by decide +kernel, rfl⟩
theorem dX11_looser_13 : dj cX11_looser 13 (.ifCond .eq) 16 21 := ⟨8, by decide +kernel, rfl, rfl⟩
theorem dX11_looser_16 : di cX11_looser 16 (.iload_n 1) 1 17 := ⟨by decide +kernel, rfl⟩
theorem dX11_looser_17 : di cX11_looser 17 (.iload_n 2) 1 18 := ⟨by decide +kernel, rfl⟩
theorem dX11_looser_18 : dj cX11_looser 18 (.if_icmp .ne) 21 27 := ⟨9, by decide +kernel, rfl, rfl⟩
theorem dX11_looser_21 : di cX11_looser 21 (.aload_n 0) 1 22 := ⟨by decide +kernel, rfl⟩
theorem dX11_looser_22 : di cX11_looser 22 (.iconst 1) 1 23 := ⟨by decide +kernel, rfl⟩
theorem dX11_looser_23 : di cX11_looser 23 (.invokevirtual 137) 3 26 := ⟨by decide +kernel, rfl⟩
theorem dX11_looser_26 : di cX11_looser 26 (.ireturn) 1 27 := ⟨by decide +kernel, rfl⟩
theorem dX11_looser_27 : di cX11_looser 27 (.aload_n 0) 1 28 := ⟨by decide +kernel, rfl⟩
theorem dX11_looser_28 : di cX11_looser 28 (.iload_n 1) 1 29 := ⟨by decide +kernel, rfl⟩
theorem dX11_looser_29 : di cX11_looser 29 (.iload_n 2) 1 30 := ⟨by decide +kernel, rfl⟩
theorem dX11_looser_30 : di cX11_looser 30 (.invokevirtual 241) 3 33 := ⟨by decide +kernel, rfl⟩
theorem dX11_looser_33 : dj cX11_looser 33 (.ifCond .eq) 36 40 := ⟨7, by decide +kernel, rfl, rfl⟩
theorem dX11_looser_36 : di cX11_looser 36 (.iconst 1) 1 37 := ⟨by decide +kernel, rfl⟩
theorem dX11_looser_37 : dj cX11_looser 37 .goto 40 41 := ⟨4, by decide +kernel, rfl, rfl⟩
theorem dX11_looser_40 : di cX11_looser 40 (.iconst 0) 1 41 := ⟨by decide +kernel, rfl⟩
theorem dX11_looser_41 : di cX11_looser 41 (.ireturn) 1 42 := ⟨by decide +kernel, rfl⟩
def f_X11_looser (v1 : Int32) (v2 : Int32) (M : Mem) : Option Ret := bE (f_X11_isJob v1 M) (fun r2 M1 => if r2 = 0 then (bE (f_X11_finding (1 : Int32) M1) (fun r4 M3 => some (r4, M3))) else (bE (f_X11_isJob v2 M1) (fun r6 M5 => if r6 = 0 then (bE (f_X11_finding (1 : Int32) M5) (fun r8 M7 => some (r8, M7))) else (if v1 = v2 then (bE (f_X11_finding (1 : Int32) M5) (fun r14 M13 => some (r14, M13))) else (bE (f_X11_isLooser v1 v2 M5) (fun r10 M9 => jn (α := Int32 → Option Ret) (fun (z12 : Int32) => some (z12, M9)) (fun J11 => if r10 = 0 then (J11 (0 : Int32)) else (J11 (1 : Int32)))))))))
set_option maxRecDepth 100000 in
theorem ok_X11_looser {l : Launch} {g : Cx} {v1 : Int32} {v2 : Int32} {M : Mem} {r : Int32} {Mr : Mem} (h : f_X11_looser v1 v2 M = some (r, Mr)) : CT l g yX11_looser cX11_looser 3 (some .int) 4 103 [.ref (g.1 11), .int v1, .int v2] M (PI r Mr) := by
  refine CT_of (lv := [some (.ref (g.1 11)), some (.int v1), some (.int v2)]) (by decide) rfl (Nat.le_of_ble_eq_true rfl) ?_
  unfold f_X11_looser at h
  refine A_aload_n dX11_looser_0 rfl ?_
  refine A_iload_n dX11_looser_1 rfl ?_
  obtain ⟨r2, M1, h1, h⟩ := bE_go h
  refine A_cVi1 dX11_looser_2 ml_X11_176 mb_X11_isJob mi_X11_isJob ob11 rfl rfl ⟨Nat.le_of_ble_eq_true rfl, Nat.le_of_ble_eq_true rfl⟩ (Nat.le_of_ble_eq_true rfl) (ok_X11_isJob h1) ?_
  refine A_if_eq dX11_looser_5 (fun hc => ?_) (fun hc => ?_)
  · have h := gT_go hc h
    refine A_aload_n dX11_looser_21 rfl ?_
    refine A_iconst (v := 1) dX11_looser_22 (by decide) ?_
    obtain ⟨r4, M3, h1, h⟩ := bE_go h
    refine A_cVi1 dX11_looser_23 ml_X11_137 mb_X11_finding mi_X11_finding ob11 rfl rfl ⟨Nat.le_of_ble_eq_true rfl, Nat.le_of_ble_eq_true rfl⟩ (Nat.le_of_ble_eq_true rfl) (ok_X11_finding h1) ?_
    exact A_iret dX11_looser_26 (pI_go h)
  · have h := gF_go hc h
    refine A_aload_n dX11_looser_8 rfl ?_
    refine A_iload_n dX11_looser_9 rfl ?_
    obtain ⟨r6, M5, h1, h⟩ := bE_go h
    refine A_cVi1 dX11_looser_10 ml_X11_176 mb_X11_isJob mi_X11_isJob ob11 rfl rfl ⟨Nat.le_of_ble_eq_true rfl, Nat.le_of_ble_eq_true rfl⟩ (Nat.le_of_ble_eq_true rfl) (ok_X11_isJob h1) ?_
    refine A_if_eq dX11_looser_13 (fun hc => ?_) (fun hc => ?_)
    · have h := gT_go hc h
      refine A_aload_n dX11_looser_21 rfl ?_
      refine A_iconst (v := 1) dX11_looser_22 (by decide) ?_
      obtain ⟨r8, M7, h1, h⟩ := bE_go h
      refine A_cVi1 dX11_looser_23 ml_X11_137 mb_X11_finding mi_X11_finding ob11 rfl rfl ⟨Nat.le_of_ble_eq_true rfl, Nat.le_of_ble_eq_true rfl⟩ (Nat.le_of_ble_eq_true rfl) (ok_X11_finding h1) ?_
      exact A_iret dX11_looser_26 (pI_go h)
    · have h := gF_go hc h
      refine A_iload_n dX11_looser_16 rfl ?_
      refine A_iload_n dX11_looser_17 rfl ?_
      refine A_icmp_ne dX11_looser_18 (fun hc => ?_) (fun hc => ?_)
      · have h := gF_go hc h
        refine A_aload_n dX11_looser_27 rfl ?_
        refine A_iload_n dX11_looser_28 rfl ?_
        refine A_iload_n dX11_looser_29 rfl ?_
        obtain ⟨r10, M9, h1, h⟩ := bE_go h
        refine A_cVi2 dX11_looser_30 ml_X11_241 mb_X11_isLooser mi_X11_isLooser ob11 rfl rfl ⟨Nat.le_of_ble_eq_true rfl, Nat.le_of_ble_eq_true rfl⟩ (Nat.le_of_ble_eq_true rfl) (ok_X11_isLooser h1) ?_
        obtain ⟨J11, hJ11, h⟩ := jn_go h
        have JJ11 : ∀ (z12 : Int32), J11 z12 = some (r, Mr) → AT l g RX11 cX11_looser 3 (some .int) (rmM 4 103) (PI r Mr) 41 [some (.ref (g.1 11)), some (.int v1), some (.int v2)] [.int z12] M9 := by
          intro z12 h
          rw [hJ11] at h
          exact A_iret dX11_looser_41 (pI_go h)
        refine A_if_eq dX11_looser_33 (fun hc => ?_) (fun hc => ?_)
        · have h := gT_go hc h
          refine A_iconst (v := 0) dX11_looser_40 (by decide) ?_
          exact A_le (lvLe_s (lvLe_s (lvLe_s lvLe_0))) (JJ11 _ h)
        · have h := gF_go hc h
          refine A_iconst (v := 1) dX11_looser_36 (by decide) ?_
          refine A_goto dX11_looser_37 ?_
          exact A_le (lvLe_s (lvLe_s (lvLe_s lvLe_0))) (JJ11 _ h)
      · have h := gT_go hc h
        refine A_aload_n dX11_looser_21 rfl ?_
        refine A_iconst (v := 1) dX11_looser_22 (by decide) ?_
        obtain ⟨r14, M13, h1, h⟩ := bE_go h
        refine A_cVi1 dX11_looser_23 ml_X11_137 mb_X11_finding mi_X11_finding ob11 rfl rfl ⟨Nat.le_of_ble_eq_true rfl, Nat.le_of_ble_eq_true rfl⟩ (Nat.le_of_ble_eq_true rfl) (ok_X11_finding h1) ?_
        exact A_iret dX11_looser_26 (pI_go h)
-- BenchTimesModel.order
theorem dX11_order_0 : di cX11_order 0 (.iload_n 1) 1 1 := ⟨by decide +kernel, rfl⟩
theorem dX11_order_1 : dj cX11_order 1 (.ifCond .ge) 4 10 := ⟨9, by decide +kernel, rfl, rfl⟩
theorem dX11_order_4 : di cX11_order 4 (.aload_n 0) 1 5 := ⟨by decide +kernel, rfl⟩
theorem dX11_order_5 : di cX11_order 5 (.iconst 1) 1 6 := ⟨by decide +kernel, rfl⟩
theorem dX11_order_6 : di cX11_order 6 (.invokevirtual 137) 3 9 := ⟨by decide +kernel, rfl⟩
theorem dX11_order_9 : di cX11_order 9 (.ireturn) 1 10 := ⟨by decide +kernel, rfl⟩
theorem dX11_order_10 : di cX11_order 10 (.iconst 0) 1 11 := ⟨by decide +kernel, rfl⟩
theorem dX11_order_11 : di cX11_order 11 (.istore_n 2) 1 12 := ⟨by decide +kernel, rfl⟩
theorem dX11_order_12 : di cX11_order 12 (.iload_n 2) 1 13 := ⟨by decide +kernel, rfl⟩
theorem dX11_order_13 : di cX11_order 13 (.aload_n 0) 1 14 := ⟨by decide +kernel, rfl⟩
theorem dX11_order_14 : di cX11_order 14 (.getfield 130) 3 17 := ⟨by decide +kernel, rfl⟩
theorem dX11_order_17 : dj cX11_order 17 (.if_icmp .ge) 20 152 := ⟨135, by decide +kernel, rfl, rfl⟩
theorem dX11_order_20 : di cX11_order 20 (.aload_n 0) 1 21 := ⟨by decide +kernel, rfl⟩
theorem dX11_order_21 : di cX11_order 21 (.getfield 114) 3 24 := ⟨by decide +kernel, rfl⟩
theorem dX11_order_24 : di cX11_order 24 (.iload_n 2) 1 25 := ⟨by decide +kernel, rfl⟩
theorem dX11_order_25 : di cX11_order 25 (.iconst 0) 1 26 := ⟨by decide +kernel, rfl⟩
theorem dX11_order_26 : di cX11_order 26 (.bastore) 1 27 := ⟨by decide +kernel, rfl⟩
theorem dX11_order_27 : di cX11_order 27 (.aload_n 0) 1 28 := ⟨by decide +kernel, rfl⟩
theorem dX11_order_28 : di cX11_order 28 (.getfield 117) 3 31 := ⟨by decide +kernel, rfl⟩
theorem dX11_order_31 : di cX11_order 31 (.iload_n 2) 1 32 := ⟨by decide +kernel, rfl⟩
theorem dX11_order_32 : di cX11_order 32 (.iconst 0) 1 33 := ⟨by decide +kernel, rfl⟩
theorem dX11_order_33 : di cX11_order 33 (.iastore) 1 34 := ⟨by decide +kernel, rfl⟩
theorem dX11_order_34 : di cX11_order 34 (.iconst 0) 1 35 := ⟨by decide +kernel, rfl⟩
theorem dX11_order_35 : di cX11_order 35 (.istore_n 3) 1 36 := ⟨by decide +kernel, rfl⟩
theorem dX11_order_36 : di cX11_order 36 (.iload_n 3) 1 37 := ⟨by decide +kernel, rfl⟩
theorem dX11_order_37 : di cX11_order 37 (.aload_n 0) 1 38 := ⟨by decide +kernel, rfl⟩
theorem dX11_order_38 : di cX11_order 38 (.getfield 221) 3 41 := ⟨by decide +kernel, rfl⟩
theorem dX11_order_41 : dj cX11_order 41 (.if_icmp .ge) 44 74 := ⟨33, by decide +kernel, rfl, rfl⟩
theorem dX11_order_44 : di cX11_order 44 (.aload_n 0) 1 45 := ⟨by decide +kernel, rfl⟩
theorem dX11_order_45 : di cX11_order 45 (.getfield 114) 3 48 := ⟨by decide +kernel, rfl⟩
theorem dX11_order_48 : di cX11_order 48 (.iload_n 2) 1 49 := ⟨by decide +kernel, rfl⟩
theorem dX11_order_49 : di cX11_order 49 (.dup2) 1 50 := ⟨by decide +kernel, rfl⟩
theorem dX11_order_50 : di cX11_order 50 (.baload) 1 51 := ⟨by decide +kernel, rfl⟩
theorem dX11_order_51 : di cX11_order 51 (.aload_n 0) 1 52 := ⟨by decide +kernel, rfl⟩
theorem dX11_order_52 : di cX11_order 52 (.getfield 72) 3 55 := ⟨by decide +kernel, rfl⟩
theorem dX11_order_55 : di cX11_order 55 (.iload_n 3) 1 56 := ⟨by decide +kernel, rfl⟩
theorem dX11_order_56 : di cX11_order 56 (.iaload) 1 57 := ⟨by decide +kernel, rfl⟩
theorem dX11_order_57 : di cX11_order 57 (.iload_n 2) 1 58 := ⟨by decide +kernel, rfl⟩
theorem dX11_order_58 : dj cX11_order 58 (.if_icmp .ne) 61 65 := ⟨7, by decide +kernel, rfl, rfl⟩
theorem dX11_order_61 : di cX11_order 61 (.iconst 1) 1 62 := ⟨by decide +kernel, rfl⟩
theorem dX11_order_62 : dj cX11_order 62 .goto 65 66 := ⟨4, by decide +kernel, rfl, rfl⟩
theorem dX11_order_65 : di cX11_order 65 (.iconst 0) 1 66 := ⟨by decide +kernel, rfl⟩
theorem dX11_order_66 : di cX11_order 66 (.ior) 1 67 := ⟨by decide +kernel, rfl⟩
theorem dX11_order_67 : di cX11_order 67 (.bastore) 1 68 := ⟨by decide +kernel, rfl⟩
theorem dX11_order_68 : di cX11_order 68 (.iinc 3 1) 3 71 := ⟨by decide +kernel, rfl⟩
theorem dX11_order_71 : dj cX11_order 71 .goto 74 36 := ⟨-35, by decide +kernel, rfl, rfl⟩
theorem dX11_order_74 : di cX11_order 74 (.iconst 0) 1 75 := ⟨by decide +kernel, rfl⟩
theorem dX11_order_75 : di cX11_order 75 (.istore_n 3) 1 76 := ⟨by decide +kernel, rfl⟩
theorem dX11_order_76 : di cX11_order 76 (.iload_n 3) 1 77 := ⟨by decide +kernel, rfl⟩
theorem dX11_order_77 : di cX11_order 77 (.aload_n 0) 1 78 := ⟨by decide +kernel, rfl⟩
theorem dX11_order_78 : di cX11_order 78 (.getfield 130) 3 81 := ⟨by decide +kernel, rfl⟩
theorem dX11_order_81 : dj cX11_order 81 (.if_icmp .ge) 84 146 := ⟨65, by decide +kernel, rfl, rfl⟩
theorem dX11_order_84 : di cX11_order 84 (.aload_n 0) 1 85 := ⟨by decide +kernel, rfl⟩
theorem dX11_order_85 : di cX11_order 85 (.getfield 117) 3 88 := ⟨by decide +kernel, rfl⟩
theorem dX11_order_88 : di cX11_order 88 (.iload_n 2) 1 89 := ⟨by decide +kernel, rfl⟩
theorem dX11_order_89 : di cX11_order 89 (.dup2) 1 90 := ⟨by decide +kernel, rfl⟩
theorem dX11_order_90 : di cX11_order 90 (.iaload) 1 91 := ⟨by decide +kernel, rfl⟩
theorem dX11_order_91 : di cX11_order 91 (.iload_n 3) 1 92 := ⟨by decide +kernel, rfl⟩
theorem dX11_order_92 : di cX11_order 92 (.iload_n 2) 1 93 := ⟨by decide +kernel, rfl⟩
theorem dX11_order_93 : dj cX11_order 93 (.if_icmp .eq) 96 109 := ⟨16, by decide +kernel, rfl, rfl⟩
theorem dX11_order_96 : di cX11_order 96 (.aload_n 0) 1 97 := ⟨by decide +kernel, rfl⟩
theorem dX11_order_97 : di cX11_order 97 (.iload_n 2) 1 98 := ⟨by decide +kernel, rfl⟩
theorem dX11_order_98 : di cX11_order 98 (.iload_n 3) 1 99 := ⟨by decide +kernel, rfl⟩
theorem dX11_order_99 : di cX11_order 99 (.invokevirtual 241) 3 102 := ⟨by decide +kernel, rfl⟩
theorem dX11_order_102 : dj cX11_order 102 (.ifCond .eq) 105 109 := ⟨7, by decide +kernel, rfl, rfl⟩
theorem dX11_order_105 : di cX11_order 105 (.iconst 1) 1 106 := ⟨by decide +kernel, rfl⟩
theorem dX11_order_106 : dj cX11_order 106 .goto 109 110 := ⟨4, by decide +kernel, rfl, rfl⟩
theorem dX11_order_109 : di cX11_order 109 (.iconst 0) 1 110 := ⟨by decide +kernel, rfl⟩
theorem dX11_order_110 : di cX11_order 110 (.iadd) 1 111 := ⟨by decide +kernel, rfl⟩
theorem dX11_order_111 : di cX11_order 111 (.iastore) 1 112 := ⟨by decide +kernel, rfl⟩
theorem dX11_order_112 : di cX11_order 112 (.aload_n 0) 1 113 := ⟨by decide +kernel, rfl⟩
theorem dX11_order_113 : di cX11_order 113 (.getfield 117) 3 116 := ⟨by decide +kernel, rfl⟩
theorem dX11_order_116 : di cX11_order 116 (.iload_n 2) 1 117 := ⟨by decide +kernel, rfl⟩
theorem dX11_order_117 : di cX11_order 117 (.dup2) 1 118 := ⟨by decide +kernel, rfl⟩
theorem dX11_order_118 : di cX11_order 118 (.iaload) 1 119 := ⟨by decide +kernel, rfl⟩
theorem dX11_order_119 : di cX11_order 119 (.iload_n 3) 1 120 := ⟨by decide +kernel, rfl⟩
theorem dX11_order_120 : di cX11_order 120 (.iload_n 2) 1 121 := ⟨by decide +kernel, rfl⟩
theorem dX11_order_121 : dj cX11_order 121 (.if_icmp .eq) 124 137 := ⟨16, by decide +kernel, rfl, rfl⟩
theorem dX11_order_124 : di cX11_order 124 (.aload_n 0) 1 125 := ⟨by decide +kernel, rfl⟩
theorem dX11_order_125 : di cX11_order 125 (.iload_n 3) 1 126 := ⟨by decide +kernel, rfl⟩
theorem dX11_order_126 : di cX11_order 126 (.iload_n 2) 1 127 := ⟨by decide +kernel, rfl⟩
theorem dX11_order_127 : di cX11_order 127 (.invokevirtual 241) 3 130 := ⟨by decide +kernel, rfl⟩
theorem dX11_order_130 : dj cX11_order 130 (.ifCond .eq) 133 137 := ⟨7, by decide +kernel, rfl, rfl⟩
theorem dX11_order_133 : di cX11_order 133 (.iconst 1) 1 134 := ⟨by decide +kernel, rfl⟩
theorem dX11_order_134 : dj cX11_order 134 .goto 137 138 := ⟨4, by decide +kernel, rfl, rfl⟩
theorem dX11_order_137 : di cX11_order 137 (.iconst 0) 1 138 := ⟨by decide +kernel, rfl⟩
theorem dX11_order_138 : di cX11_order 138 (.isub) 1 139 := ⟨by decide +kernel, rfl⟩
theorem dX11_order_139 : di cX11_order 139 (.iastore) 1 140 := ⟨by decide +kernel, rfl⟩
theorem dX11_order_140 : di cX11_order 140 (.iinc 3 1) 3 143 := ⟨by decide +kernel, rfl⟩
theorem dX11_order_143 : dj cX11_order 143 .goto 146 76 := ⟨-67, by decide +kernel, rfl, rfl⟩
theorem dX11_order_146 : di cX11_order 146 (.iinc 2 1) 3 149 := ⟨by decide +kernel, rfl⟩
theorem dX11_order_149 : dj cX11_order 149 .goto 152 12 := ⟨-137, by decide +kernel, rfl, rfl⟩
theorem dX11_order_152 : di cX11_order 152 (.iconst 0) 1 153 := ⟨by decide +kernel, rfl⟩
theorem dX11_order_153 : di cX11_order 153 (.istore_n 2) 1 154 := ⟨by decide +kernel, rfl⟩
theorem dX11_order_154 : di cX11_order 154 (.iload_n 2) 1 155 := ⟨by decide +kernel, rfl⟩
theorem dX11_order_155 : di cX11_order 155 (.aload_n 0) 1 156 := ⟨by decide +kernel, rfl⟩
theorem dX11_order_156 : di cX11_order 156 (.getfield 130) 3 159 := ⟨by decide +kernel, rfl⟩
theorem dX11_order_159 : dj cX11_order 159 (.if_icmp .ge) 162 260 := ⟨101, by decide +kernel, rfl, rfl⟩
theorem dX11_order_162 : di cX11_order 162 (.iconst 0) 1 163 := ⟨by decide +kernel, rfl⟩
theorem dX11_order_163 : di cX11_order 163 (.istore_n 3) 1 164 := ⟨by decide +kernel, rfl⟩
theorem dX11_order_164 : di cX11_order 164 (.iconst 0) 1 165 := ⟨by decide +kernel, rfl⟩
theorem dX11_order_165 : di cX11_order 165 (.istore 4) 2 167 := ⟨by decide +kernel, rfl⟩
theorem dX11_order_167 : di cX11_order 167 (.iload 4) 2 169 := ⟨by decide +kernel, rfl⟩
theorem dX11_order_169 : di cX11_order 169 (.aload_n 0) 1 170 := ⟨by decide +kernel, rfl⟩
theorem dX11_order_170 : di cX11_order 170 (.getfield 130) 3 173 := ⟨by decide +kernel, rfl⟩
theorem dX11_order_173 : dj cX11_order 173 (.if_icmp .ge) 176 238 := ⟨65, by decide +kernel, rfl, rfl⟩
theorem dX11_order_176 : di cX11_order 176 (.iload_n 3) 1 177 := ⟨by decide +kernel, rfl⟩
theorem dX11_order_177 : di cX11_order 177 (.aload_n 0) 1 178 := ⟨by decide +kernel, rfl⟩
theorem dX11_order_178 : di cX11_order 178 (.getfield 114) 3 181 := ⟨by decide +kernel, rfl⟩
theorem dX11_order_181 : di cX11_order 181 (.iload 4) 2 183 := ⟨by decide +kernel, rfl⟩
theorem dX11_order_183 : di cX11_order 183 (.baload) 1 184 := ⟨by decide +kernel, rfl⟩
theorem dX11_order_184 : dj cX11_order 184 (.ifCond .eq) 187 229 := ⟨45, by decide +kernel, rfl, rfl⟩
theorem dX11_order_187 : di cX11_order 187 (.aload_n 0) 1 188 := ⟨by decide +kernel, rfl⟩
theorem dX11_order_188 : di cX11_order 188 (.getfield 117) 3 191 := ⟨by decide +kernel, rfl⟩
theorem dX11_order_191 : di cX11_order 191 (.iload 4) 2 193 := ⟨by decide +kernel, rfl⟩
theorem dX11_order_193 : di cX11_order 193 (.iaload) 1 194 := ⟨by decide +kernel, rfl⟩
theorem dX11_order_194 : di cX11_order 194 (.aload_n 0) 1 195 := ⟨by decide +kernel, rfl⟩
theorem dX11_order_195 : di cX11_order 195 (.getfield 117) 3 198 := ⟨by decide +kernel, rfl⟩
theorem dX11_order_198 : di cX11_order 198 (.iload_n 2) 1 199 := ⟨by decide +kernel, rfl⟩
theorem dX11_order_199 : di cX11_order 199 (.iaload) 1 200 := ⟨by decide +kernel, rfl⟩
theorem dX11_order_200 : dj cX11_order 200 (.if_icmp .gt) 203 225 := ⟨25, by decide +kernel, rfl, rfl⟩
theorem dX11_order_203 : di cX11_order 203 (.aload_n 0) 1 204 := ⟨by decide +kernel, rfl⟩
theorem dX11_order_204 : di cX11_order 204 (.getfield 117) 3 207 := ⟨by decide +kernel, rfl⟩
theorem dX11_order_207 : di cX11_order 207 (.iload 4) 2 209 := ⟨by decide +kernel, rfl⟩
theorem dX11_order_209 : di cX11_order 209 (.iaload) 1 210 := ⟨by decide +kernel, rfl⟩
theorem dX11_order_210 : di cX11_order 210 (.aload_n 0) 1 211 := ⟨by decide +kernel, rfl⟩
theorem dX11_order_211 : di cX11_order 211 (.getfield 117) 3 214 := ⟨by decide +kernel, rfl⟩
theorem dX11_order_214 : di cX11_order 214 (.iload_n 2) 1 215 := ⟨by decide +kernel, rfl⟩
theorem dX11_order_215 : di cX11_order 215 (.iaload) 1 216 := ⟨by decide +kernel, rfl⟩
theorem dX11_order_216 : dj cX11_order 216 (.if_icmp .ne) 219 229 := ⟨13, by decide +kernel, rfl, rfl⟩
theorem dX11_order_219 : di cX11_order 219 (.iload 4) 2 221 := ⟨by decide +kernel, rfl⟩
theorem dX11_order_221 : di cX11_order 221 (.iload_n 2) 1 222 := ⟨by decide +kernel, rfl⟩
theorem dX11_order_222 : dj cX11_order 222 (.if_icmp .ge) 225 229 := ⟨7, by decide +kernel, rfl, rfl⟩
theorem dX11_order_225 : di cX11_order 225 (.iconst 1) 1 226 := ⟨by decide +kernel, rfl⟩
theorem dX11_order_226 : dj cX11_order 226 .goto 229 230 := ⟨4, by decide +kernel, rfl, rfl⟩
theorem dX11_order_229 : di cX11_order 229 (.iconst 0) 1 230 := ⟨by decide +kernel, rfl⟩
theorem dX11_order_230 : di cX11_order 230 (.iadd) 1 231 := ⟨by decide +kernel, rfl⟩
theorem dX11_order_231 : di cX11_order 231 (.istore_n 3) 1 232 := ⟨by decide +kernel, rfl⟩
theorem dX11_order_232 : di cX11_order 232 (.iinc 4 1) 3 235 := ⟨by decide +kernel, rfl⟩
theorem dX11_order_235 : dj cX11_order 235 .goto 238 167 := ⟨-68, by decide +kernel, rfl, rfl⟩
theorem dX11_order_238 : di cX11_order 238 (.aload_n 0) 1 239 := ⟨by decide +kernel, rfl⟩
theorem dX11_order_239 : di cX11_order 239 (.getfield 114) 3 242 := ⟨by decide +kernel, rfl⟩
theorem dX11_order_242 : di cX11_order 242 (.iload_n 2) 1 243 := ⟨by decide +kernel, rfl⟩
theorem dX11_order_243 : di cX11_order 243 (.baload) 1 244 := ⟨by decide +kernel, rfl⟩
theorem dX11_order_244 : dj cX11_order 244 (.ifCond .eq) 247 254 := ⟨10, by decide +kernel, rfl, rfl⟩
theorem dX11_order_247 : di cX11_order 247 (.iload_n 3) 1 248 := ⟨by decide +kernel, rfl⟩
theorem dX11_order_248 : di cX11_order 248 (.iload_n 1) 1 249 := ⟨by decide +kernel, rfl⟩
theorem dX11_order_249 : dj cX11_order 249 (.if_icmp .ne) 252 254 := ⟨5, by decide +kernel, rfl, rfl⟩
theorem dX11_order_252 : di cX11_order 252 (.iload_n 2) 1 253 := ⟨by decide +kernel, rfl⟩
theorem dX11_order_253 : di cX11_order 253 (.ireturn) 1 254 := ⟨by decide +kernel, rfl⟩
theorem dX11_order_254 : di cX11_order 254 (.iinc 2 1) 3 257 := ⟨by decide +kernel, rfl⟩
theorem dX11_order_257 : dj cX11_order 257 .goto 260 154 := ⟨-103, by decide +kernel, rfl, rfl⟩
theorem dX11_order_260 : di cX11_order 260 (.aload_n 0) 1 261 := ⟨by decide +kernel, rfl⟩
theorem dX11_order_261 : di cX11_order 261 (.iconst 2) 1 262 := ⟨by decide +kernel, rfl⟩
theorem dX11_order_262 : di cX11_order 262 (.invokevirtual 137) 3 265 := ⟨by decide +kernel, rfl⟩
theorem dX11_order_265 : di cX11_order 265 (.ireturn) 1 266 := ⟨by decide +kernel, rfl⟩
def f_X11_order_L36 (v1 : Int32) (v2 : Int32) : Nat → Int32 → Mem → (Int32 → Mem → Option Ret) → Option Ret
  | 0, _, _, _ => none
  | k36 + 1, v3, M, K36 => if (M.1 11 25) ≤ v3 then (K36 v3 M) else (gV v2 8 (gV v3 100 (jn (α := Int32 → Option Ret) (fun (z4 : Int32) => gV v2 8 (bM (up2 M 98 v2.toNatClampNeg (((M.1 98 v2.toNatClampNeg) ||| z4) &&& 1)) (fun M5 => f_X11_order_L36 v1 v2 k36 (v3 + (1 : Int32)) M5 K36))) (fun J3 => if (M.1 84 v3.toNatClampNeg) = v2 then (J3 (1 : Int32)) else (J3 (0 : Int32))))))
set_option maxRecDepth 100000 in
theorem f_X11_order_L36_ok {l : Launch} {g : Cx} (v1 : Int32) (v2 : Int32)  {r : Int32} {Mr : Mem} : ∀ (k : Nat) (v3 : Int32) (M : Mem) (K36 : Int32 → Mem → Option Ret), f_X11_order_L36 v1 v2 k v3 M K36 = some (r, Mr) → (∀ (v3 : Int32) (M : Mem), K36 v3 M = some (r, Mr) → AT l g RX11 cX11_order 5 (some .int) (rmM 4 103) (PI r Mr) 74 [some (.ref (g.1 11)), some (.int v1), some (.int v2), some (.int v3), none] [] M) → AT l g RX11 cX11_order 5 (some .int) (rmM 4 103) (PI r Mr) 36 [some (.ref (g.1 11)), some (.int v1), some (.int v2), some (.int v3), none] [] M
  | 0, v3, M, K36, h, hK36 => by cases h
  | k36 + 1, v3, M, K36, h, hK36 => by
    have ih36 := f_X11_order_L36_ok (l := l) (g := g) v1 v2 (r := r) (Mr := Mr) k36
    rw [f_X11_order_L36] at h
    refine A_iload_n dX11_order_36 rfl ?_
    refine A_aload_n dX11_order_37 rfl ?_
    refine A_getf dX11_order_38 fw_X11_221 ob11 rfl ?_
    refine A_icmp_ge dX11_order_41 (fun hc => ?_) (fun hc => ?_)
    · have h := gT_go hc h
      exact A_le (lvLe_s (lvLe_s (lvLe_s (lvLe_s (lvLe_n lvLe_0))))) (hK36 _ _ h)
    · have h := gF_go hc h
      refine A_aload_n dX11_order_44 rfl ?_
      refine A_getf dX11_order_45 fw_X11_114 ob11 rfl ?_
      refine A_iload_n dX11_order_48 rfl ?_
      refine A_dup2 dX11_order_49 rfl rfl ?_
      obtain ⟨hg, h⟩ := gV_go h
      refine A_zald dX11_order_50 za98 hg ?_
      refine A_aload_n dX11_order_51 rfl ?_
      refine A_getf dX11_order_52 fw_X11_72 ob11 rfl ?_
      refine A_iload_n dX11_order_55 rfl ?_
      obtain ⟨hg, h⟩ := gV_go h
      refine A_iald dX11_order_56 ia84 hg ?_
      refine A_iload_n dX11_order_57 rfl ?_
      obtain ⟨J3, hJ3, h⟩ := jn_go h
      have JJ3 : ∀ (z4 : Int32), J3 z4 = some (r, Mr) → AT l g RX11 cX11_order 5 (some .int) (rmM 4 103) (PI r Mr) 66 [some (.ref (g.1 11)), some (.int v1), some (.int v2), some (.int v3), none] [.int z4, .int (M.1 98 v2.toNatClampNeg), .int v2, .ref (g.1 98)] M := by
        intro z4 h
        rw [hJ3] at h
        refine A_ior dX11_order_66 ?_
        obtain ⟨hg, h⟩ := gV_go h
        refine A_zast dX11_order_67 za98 hg (bM_go h (fun M5 h => ?_))
        refine A_iinc3 (d := 1) dX11_order_68 (by decide) (by decide) rfl ?_
        refine A_goto dX11_order_71 ?_
        exact A_le (lvLe_s (lvLe_s (lvLe_s (lvLe_s (lvLe_n lvLe_0))))) (ih36 _ _ K36 h hK36)
      refine A_icmp_ne dX11_order_58 (fun hc => ?_) (fun hc => ?_)
      · have h := gF_go hc h
        refine A_iconst (v := 0) dX11_order_65 (by decide) ?_
        exact A_le (lvLe_s (lvLe_s (lvLe_s (lvLe_s (lvLe_n lvLe_0))))) (JJ3 _ h)
      · have h := gT_go hc h
        refine A_iconst (v := 1) dX11_order_61 (by decide) ?_
        refine A_goto dX11_order_62 ?_
        exact A_le (lvLe_s (lvLe_s (lvLe_s (lvLe_s (lvLe_n lvLe_0))))) (JJ3 _ h)
def f_X11_order_L76 (v1 : Int32) (v2 : Int32) : Nat → Int32 → Mem → (Int32 → Mem → Option Ret) → Option Ret
  | 0, _, _, _ => none
  | k76 + 1, v3, M, K76 => if (M.1 11 12) ≤ v3 then (K76 v3 M) else (gV v2 8 (jn (α := Int32 → Mem → Option Ret) (fun (z9 : Int32) (M10 : Mem) => gV v2 8 (bM (up2 M10 99 v2.toNatClampNeg ((M.1 99 v2.toNatClampNeg) + z9)) (fun M11 => gV v2 8 (jn (α := Int32 → Mem → Option Ret) (fun (z13 : Int32) (M14 : Mem) => gV v2 8 (bM (up2 M14 99 v2.toNatClampNeg ((M11.1 99 v2.toNatClampNeg) - z13)) (fun M15 => f_X11_order_L76 v1 v2 k76 (v3 + (1 : Int32)) M15 K76))) (fun J12 => if v3 = v2 then (J12 (0 : Int32) M11) else (bE (f_X11_isLooser v3 v2 M11) (fun r17 M16 => if r17 = 0 then (J12 (0 : Int32) M16) else (J12 (1 : Int32) M16)))))))) (fun J8 => if v3 = v2 then (J8 (0 : Int32) M) else (bE (f_X11_isLooser v2 v3 M) (fun r19 M18 => if r19 = 0 then (J8 (0 : Int32) M18) else (J8 (1 : Int32) M18))))))
set_option maxRecDepth 100000 in
theorem f_X11_order_L76_ok {l : Launch} {g : Cx} (v1 : Int32) (v2 : Int32)  {r : Int32} {Mr : Mem} : ∀ (k : Nat) (v3 : Int32) (M : Mem) (K76 : Int32 → Mem → Option Ret), f_X11_order_L76 v1 v2 k v3 M K76 = some (r, Mr) → (∀ (v3 : Int32) (M : Mem), K76 v3 M = some (r, Mr) → AT l g RX11 cX11_order 5 (some .int) (rmM 4 103) (PI r Mr) 146 [some (.ref (g.1 11)), some (.int v1), some (.int v2), some (.int v3), none] [] M) → AT l g RX11 cX11_order 5 (some .int) (rmM 4 103) (PI r Mr) 76 [some (.ref (g.1 11)), some (.int v1), some (.int v2), some (.int v3), none] [] M
  | 0, v3, M, K76, h, hK76 => by cases h
  | k76 + 1, v3, M, K76, h, hK76 => by
    have ih76 := f_X11_order_L76_ok (l := l) (g := g) v1 v2 (r := r) (Mr := Mr) k76
    rw [f_X11_order_L76] at h
    refine A_iload_n dX11_order_76 rfl ?_
    refine A_aload_n dX11_order_77 rfl ?_
    refine A_getf dX11_order_78 fw_X11_130 ob11 rfl ?_
    refine A_icmp_ge dX11_order_81 (fun hc => ?_) (fun hc => ?_)
    · have h := gT_go hc h
      exact A_le (lvLe_s (lvLe_s (lvLe_s (lvLe_s (lvLe_n lvLe_0))))) (hK76 _ _ h)
    · have h := gF_go hc h
      refine A_aload_n dX11_order_84 rfl ?_
      refine A_getf dX11_order_85 fw_X11_117 ob11 rfl ?_
      refine A_iload_n dX11_order_88 rfl ?_
      refine A_dup2 dX11_order_89 rfl rfl ?_
      obtain ⟨hg, h⟩ := gV_go h
      refine A_iald dX11_order_90 ia99 hg ?_
      refine A_iload_n dX11_order_91 rfl ?_
      refine A_iload_n dX11_order_92 rfl ?_
      obtain ⟨J8, hJ8, h⟩ := jn_go h
      have JJ8 : ∀ (z9 : Int32) (M10 : Mem), J8 z9 M10 = some (r, Mr) → AT l g RX11 cX11_order 5 (some .int) (rmM 4 103) (PI r Mr) 110 [some (.ref (g.1 11)), some (.int v1), some (.int v2), some (.int v3), none] [.int z9, .int (M.1 99 v2.toNatClampNeg), .int v2, .ref (g.1 99)] M10 := by
        intro z9 M10 h
        rw [hJ8] at h
        refine A_iadd dX11_order_110 ?_
        obtain ⟨hg, h⟩ := gV_go h
        refine A_iast dX11_order_111 ia99 hg (bM_go h (fun M11 h => ?_))
        refine A_aload_n dX11_order_112 rfl ?_
        refine A_getf dX11_order_113 fw_X11_117 ob11 rfl ?_
        refine A_iload_n dX11_order_116 rfl ?_
        refine A_dup2 dX11_order_117 rfl rfl ?_
        obtain ⟨hg, h⟩ := gV_go h
        refine A_iald dX11_order_118 ia99 hg ?_
        refine A_iload_n dX11_order_119 rfl ?_
        refine A_iload_n dX11_order_120 rfl ?_
        obtain ⟨J12, hJ12, h⟩ := jn_go h
        have JJ12 : ∀ (z13 : Int32) (M14 : Mem), J12 z13 M14 = some (r, Mr) → AT l g RX11 cX11_order 5 (some .int) (rmM 4 103) (PI r Mr) 138 [some (.ref (g.1 11)), some (.int v1), some (.int v2), some (.int v3), none] [.int z13, .int (M11.1 99 v2.toNatClampNeg), .int v2, .ref (g.1 99)] M14 := by
          intro z13 M14 h
          rw [hJ12] at h
          refine A_isub dX11_order_138 ?_
          obtain ⟨hg, h⟩ := gV_go h
          refine A_iast dX11_order_139 ia99 hg (bM_go h (fun M15 h => ?_))
          refine A_iinc3 (d := 1) dX11_order_140 (by decide) (by decide) rfl ?_
          refine A_goto dX11_order_143 ?_
          exact A_le (lvLe_s (lvLe_s (lvLe_s (lvLe_s (lvLe_n lvLe_0))))) (ih76 _ _ K76 h hK76)
        refine A_icmp_eq dX11_order_121 (fun hc => ?_) (fun hc => ?_)
        · have h := gT_go hc h
          refine A_iconst (v := 0) dX11_order_137 (by decide) ?_
          exact A_le (lvLe_s (lvLe_s (lvLe_s (lvLe_s (lvLe_n lvLe_0))))) (JJ12 _ _ h)
        · have h := gF_go hc h
          refine A_aload_n dX11_order_124 rfl ?_
          refine A_iload_n dX11_order_125 rfl ?_
          refine A_iload_n dX11_order_126 rfl ?_
          obtain ⟨r17, M16, h1, h⟩ := bE_go h
          refine A_cVi2 dX11_order_127 ml_X11_241 mb_X11_isLooser mi_X11_isLooser ob11 rfl rfl ⟨Nat.le_of_ble_eq_true rfl, Nat.le_of_ble_eq_true rfl⟩ (Nat.le_of_ble_eq_true rfl) (ok_X11_isLooser h1) ?_
          refine A_if_eq dX11_order_130 (fun hc => ?_) (fun hc => ?_)
          · have h := gT_go hc h
            refine A_iconst (v := 0) dX11_order_137 (by decide) ?_
            exact A_le (lvLe_s (lvLe_s (lvLe_s (lvLe_s (lvLe_n lvLe_0))))) (JJ12 _ _ h)
          · have h := gF_go hc h
            refine A_iconst (v := 1) dX11_order_133 (by decide) ?_
            refine A_goto dX11_order_134 ?_
            exact A_le (lvLe_s (lvLe_s (lvLe_s (lvLe_s (lvLe_n lvLe_0))))) (JJ12 _ _ h)
      refine A_icmp_eq dX11_order_93 (fun hc => ?_) (fun hc => ?_)
      · have h := gT_go hc h
        refine A_iconst (v := 0) dX11_order_109 (by decide) ?_
        exact A_le (lvLe_s (lvLe_s (lvLe_s (lvLe_s (lvLe_n lvLe_0))))) (JJ8 _ _ h)
      · have h := gF_go hc h
        refine A_aload_n dX11_order_96 rfl ?_
        refine A_iload_n dX11_order_97 rfl ?_
        refine A_iload_n dX11_order_98 rfl ?_
        obtain ⟨r19, M18, h1, h⟩ := bE_go h
        refine A_cVi2 dX11_order_99 ml_X11_241 mb_X11_isLooser mi_X11_isLooser ob11 rfl rfl ⟨Nat.le_of_ble_eq_true rfl, Nat.le_of_ble_eq_true rfl⟩ (Nat.le_of_ble_eq_true rfl) (ok_X11_isLooser h1) ?_
        refine A_if_eq dX11_order_102 (fun hc => ?_) (fun hc => ?_)
        · have h := gT_go hc h
          refine A_iconst (v := 0) dX11_order_109 (by decide) ?_
          exact A_le (lvLe_s (lvLe_s (lvLe_s (lvLe_s (lvLe_n lvLe_0))))) (JJ8 _ _ h)
        · have h := gF_go hc h
          refine A_iconst (v := 1) dX11_order_105 (by decide) ?_
          refine A_goto dX11_order_106 ?_
          exact A_le (lvLe_s (lvLe_s (lvLe_s (lvLe_s (lvLe_n lvLe_0))))) (JJ8 _ _ h)
def f_X11_order_L12 (v1 : Int32) : Nat → Int32 → Mem → (Int32 → Mem → Option Ret) → Option Ret
  | 0, _, _, _ => none
  | k12 + 1, v2, M, K12 => if (M.1 11 12) ≤ v2 then (K12 v2 M) else (gV v2 8 (bM (up2 M 98 v2.toNatClampNeg ((0 : Int32) &&& 1)) (fun M1 => gV v2 8 (bM (up2 M1 99 v2.toNatClampNeg (0 : Int32)) (fun M2 => f_X11_order_L36 v1 v2 FU (0 : Int32) M2 (fun w6 M7 => f_X11_order_L76 v1 v2 FU (0 : Int32) M7 (fun w20 M21 => f_X11_order_L12 v1 k12 (v2 + (1 : Int32)) M21 K12)))))))
set_option maxRecDepth 100000 in
theorem f_X11_order_L12_ok {l : Launch} {g : Cx} (v1 : Int32)  {r : Int32} {Mr : Mem} : ∀ (k : Nat) (v2 : Int32) (M : Mem) (K12 : Int32 → Mem → Option Ret), f_X11_order_L12 v1 k v2 M K12 = some (r, Mr) → (∀ (v2 : Int32) (M : Mem), K12 v2 M = some (r, Mr) → AT l g RX11 cX11_order 5 (some .int) (rmM 4 103) (PI r Mr) 152 [some (.ref (g.1 11)), some (.int v1), some (.int v2), none, none] [] M) → AT l g RX11 cX11_order 5 (some .int) (rmM 4 103) (PI r Mr) 12 [some (.ref (g.1 11)), some (.int v1), some (.int v2), none, none] [] M
  | 0, v2, M, K12, h, hK12 => by cases h
  | k12 + 1, v2, M, K12, h, hK12 => by
    have ih12 := f_X11_order_L12_ok (l := l) (g := g) v1 (r := r) (Mr := Mr) k12
    rw [f_X11_order_L12] at h
    refine A_iload_n dX11_order_12 rfl ?_
    refine A_aload_n dX11_order_13 rfl ?_
    refine A_getf dX11_order_14 fw_X11_130 ob11 rfl ?_
    refine A_icmp_ge dX11_order_17 (fun hc => ?_) (fun hc => ?_)
    · have h := gT_go hc h
      exact A_le (lvLe_s (lvLe_s (lvLe_s (lvLe_n (lvLe_n lvLe_0))))) (hK12 _ _ h)
    · have h := gF_go hc h
      refine A_aload_n dX11_order_20 rfl ?_
      refine A_getf dX11_order_21 fw_X11_114 ob11 rfl ?_
      refine A_iload_n dX11_order_24 rfl ?_
      refine A_iconst (v := 0) dX11_order_25 (by decide) ?_
      obtain ⟨hg, h⟩ := gV_go h
      refine A_zast dX11_order_26 za98 hg (bM_go h (fun M1 h => ?_))
      refine A_aload_n dX11_order_27 rfl ?_
      refine A_getf dX11_order_28 fw_X11_117 ob11 rfl ?_
      refine A_iload_n dX11_order_31 rfl ?_
      refine A_iconst (v := 0) dX11_order_32 (by decide) ?_
      obtain ⟨hg, h⟩ := gV_go h
      refine A_iast dX11_order_33 ia99 hg (bM_go h (fun M2 h => ?_))
      refine A_iconst (v := 0) dX11_order_34 (by decide) ?_
      refine A_istoren3 dX11_order_35 (by decide) rfl ?_
      refine f_X11_order_L36_ok _ _ FU _ _ _ h (fun w6 M7 h => ?_)
      refine A_iconst (v := 0) dX11_order_74 (by decide) ?_
      refine A_istoren3 dX11_order_75 (by decide) rfl ?_
      refine f_X11_order_L76_ok _ _ FU _ _ _ h (fun w20 M21 h => ?_)
      refine A_iinc2 (d := 1) dX11_order_146 (by decide) (by decide) rfl ?_
      refine A_goto dX11_order_149 ?_
      exact A_le (lvLe_s (lvLe_s (lvLe_s (lvLe_n (lvLe_n lvLe_0))))) (ih12 _ _ K12 h hK12)
def f_X11_order_L167 (v1 : Int32) (v2 : Int32) : Nat → Int32 → Int32 → Mem → (Int32 → Int32 → Mem → Option Ret) → Option Ret
  | 0, _, _, _, _ => none
  | k167 + 1, v3, v4, M, K167 => if (M.1 11 12) ≤ v4 then (K167 v3 v4 M) else (gV v4 8 (jn (α := Int32 → Option Ret) (fun (z25 : Int32) => bI (v3 + z25) (fun x26 => f_X11_order_L167 v1 v2 k167 x26 (v4 + (1 : Int32)) M K167)) (fun J24 => if (M.1 98 v4.toNatClampNeg) = 0 then (J24 (0 : Int32)) else (gV v4 8 (gV v2 8 (if (M.1 99 v2.toNatClampNeg) < (M.1 99 v4.toNatClampNeg) then (J24 (1 : Int32)) else (gV v4 8 (gV v2 8 (if (M.1 99 v4.toNatClampNeg) = (M.1 99 v2.toNatClampNeg) then (if v2 ≤ v4 then (J24 (0 : Int32)) else (J24 (1 : Int32))) else (J24 (0 : Int32)))))))))))
set_option maxRecDepth 100000 in
theorem f_X11_order_L167_ok {l : Launch} {g : Cx} (v1 : Int32) (v2 : Int32)  {r : Int32} {Mr : Mem} : ∀ (k : Nat) (v3 : Int32) (v4 : Int32) (M : Mem) (K167 : Int32 → Int32 → Mem → Option Ret), f_X11_order_L167 v1 v2 k v3 v4 M K167 = some (r, Mr) → (∀ (v3 : Int32) (v4 : Int32) (M : Mem), K167 v3 v4 M = some (r, Mr) → AT l g RX11 cX11_order 5 (some .int) (rmM 4 103) (PI r Mr) 238 [some (.ref (g.1 11)), some (.int v1), some (.int v2), some (.int v3), some (.int v4)] [] M) → AT l g RX11 cX11_order 5 (some .int) (rmM 4 103) (PI r Mr) 167 [some (.ref (g.1 11)), some (.int v1), some (.int v2), some (.int v3), some (.int v4)] [] M
  | 0, v3, v4, M, K167, h, hK167 => by cases h
  | k167 + 1, v3, v4, M, K167, h, hK167 => by
    have ih167 := f_X11_order_L167_ok (l := l) (g := g) v1 v2 (r := r) (Mr := Mr) k167
    rw [f_X11_order_L167] at h
    refine A_iload dX11_order_167 rfl ?_
    refine A_aload_n dX11_order_169 rfl ?_
    refine A_getf dX11_order_170 fw_X11_130 ob11 rfl ?_
    refine A_icmp_ge dX11_order_173 (fun hc => ?_) (fun hc => ?_)
    · have h := gT_go hc h
      exact A_le (lvLe_s (lvLe_s (lvLe_s (lvLe_s (lvLe_s lvLe_0))))) (hK167 _ _ _ h)
    · have h := gF_go hc h
      refine A_iload_n dX11_order_176 rfl ?_
      refine A_aload_n dX11_order_177 rfl ?_
      refine A_getf dX11_order_178 fw_X11_114 ob11 rfl ?_
      refine A_iload dX11_order_181 rfl ?_
      obtain ⟨hg, h⟩ := gV_go h
      refine A_zald dX11_order_183 za98 hg ?_
      obtain ⟨J24, hJ24, h⟩ := jn_go h
      have JJ24 : ∀ (z25 : Int32), J24 z25 = some (r, Mr) → AT l g RX11 cX11_order 5 (some .int) (rmM 4 103) (PI r Mr) 230 [some (.ref (g.1 11)), some (.int v1), some (.int v2), some (.int v3), some (.int v4)] [.int z25, .int v3] M := by
        intro z25 h
        rw [hJ24] at h
        refine A_iadd dX11_order_230 ?_
        refine A_istoren3 dX11_order_231 (by decide) rfl (bI_go h (G := fun z => AT l g RX11 cX11_order 5 (some .int) (rmM 4 103) (PI r Mr) 232 [some (.ref (g.1 11)), some (.int v1), some (.int v2), some (.int z), some (.int v4)] [] M) (fun x26 h => ?_))
        refine A_iinc4 (d := 1) dX11_order_232 (by decide) (by decide) rfl ?_
        refine A_goto dX11_order_235 ?_
        exact A_le (lvLe_s (lvLe_s (lvLe_s (lvLe_s (lvLe_s lvLe_0))))) (ih167 _ _ _ K167 h hK167)
      refine A_if_eq dX11_order_184 (fun hc => ?_) (fun hc => ?_)
      · have h := gT_go hc h
        refine A_iconst (v := 0) dX11_order_229 (by decide) ?_
        exact A_le (lvLe_s (lvLe_s (lvLe_s (lvLe_s (lvLe_s lvLe_0))))) (JJ24 _ h)
      · have h := gF_go hc h
        refine A_aload_n dX11_order_187 rfl ?_
        refine A_getf dX11_order_188 fw_X11_117 ob11 rfl ?_
        refine A_iload dX11_order_191 rfl ?_
        obtain ⟨hg, h⟩ := gV_go h
        refine A_iald dX11_order_193 ia99 hg ?_
        refine A_aload_n dX11_order_194 rfl ?_
        refine A_getf dX11_order_195 fw_X11_117 ob11 rfl ?_
        refine A_iload_n dX11_order_198 rfl ?_
        obtain ⟨hg, h⟩ := gV_go h
        refine A_iald dX11_order_199 ia99 hg ?_
        refine A_icmp_gt dX11_order_200 (fun hc => ?_) (fun hc => ?_)
        · have h := gT_go hc h
          refine A_iconst (v := 1) dX11_order_225 (by decide) ?_
          refine A_goto dX11_order_226 ?_
          exact A_le (lvLe_s (lvLe_s (lvLe_s (lvLe_s (lvLe_s lvLe_0))))) (JJ24 _ h)
        · have h := gF_go hc h
          refine A_aload_n dX11_order_203 rfl ?_
          refine A_getf dX11_order_204 fw_X11_117 ob11 rfl ?_
          refine A_iload dX11_order_207 rfl ?_
          obtain ⟨hg, h⟩ := gV_go h
          refine A_iald dX11_order_209 ia99 hg ?_
          refine A_aload_n dX11_order_210 rfl ?_
          refine A_getf dX11_order_211 fw_X11_117 ob11 rfl ?_
          refine A_iload_n dX11_order_214 rfl ?_
          obtain ⟨hg, h⟩ := gV_go h
          refine A_iald dX11_order_215 ia99 hg ?_
          refine A_icmp_ne dX11_order_216 (fun hc => ?_) (fun hc => ?_)
          · have h := gF_go hc h
            refine A_iconst (v := 0) dX11_order_229 (by decide) ?_
            exact A_le (lvLe_s (lvLe_s (lvLe_s (lvLe_s (lvLe_s lvLe_0))))) (JJ24 _ h)
          · have h := gT_go hc h
            refine A_iload dX11_order_219 rfl ?_
            refine A_iload_n dX11_order_221 rfl ?_
            refine A_icmp_ge dX11_order_222 (fun hc => ?_) (fun hc => ?_)
            · have h := gT_go hc h
              refine A_iconst (v := 0) dX11_order_229 (by decide) ?_
              exact A_le (lvLe_s (lvLe_s (lvLe_s (lvLe_s (lvLe_s lvLe_0))))) (JJ24 _ h)
            · have h := gF_go hc h
              refine A_iconst (v := 1) dX11_order_225 (by decide) ?_
              refine A_goto dX11_order_226 ?_
              exact A_le (lvLe_s (lvLe_s (lvLe_s (lvLe_s (lvLe_s lvLe_0))))) (JJ24 _ h)
def f_X11_order_L154 (v1 : Int32) : Nat → Int32 → Mem → (Int32 → Mem → Option Ret) → Option Ret
  | 0, _, _, _ => none
  | k154 + 1, v2, M, K154 => if (M.1 11 12) ≤ v2 then (K154 v2 M) else (f_X11_order_L167 v1 v2 FU (0 : Int32) (0 : Int32) M (fun w27 w28 M29 => gV v2 8 (if (M29.1 98 v2.toNatClampNeg) = 0 then (f_X11_order_L154 v1 k154 (v2 + (1 : Int32)) M29 K154) else (if w27 = v1 then (some (v2, M29)) else (f_X11_order_L154 v1 k154 (v2 + (1 : Int32)) M29 K154)))))
set_option maxRecDepth 100000 in
theorem f_X11_order_L154_ok {l : Launch} {g : Cx} (v1 : Int32)  {r : Int32} {Mr : Mem} : ∀ (k : Nat) (v2 : Int32) (M : Mem) (K154 : Int32 → Mem → Option Ret), f_X11_order_L154 v1 k v2 M K154 = some (r, Mr) → (∀ (v2 : Int32) (M : Mem), K154 v2 M = some (r, Mr) → AT l g RX11 cX11_order 5 (some .int) (rmM 4 103) (PI r Mr) 260 [some (.ref (g.1 11)), some (.int v1), some (.int v2), none, none] [] M) → AT l g RX11 cX11_order 5 (some .int) (rmM 4 103) (PI r Mr) 154 [some (.ref (g.1 11)), some (.int v1), some (.int v2), none, none] [] M
  | 0, v2, M, K154, h, hK154 => by cases h
  | k154 + 1, v2, M, K154, h, hK154 => by
    have ih154 := f_X11_order_L154_ok (l := l) (g := g) v1 (r := r) (Mr := Mr) k154
    rw [f_X11_order_L154] at h
    refine A_iload_n dX11_order_154 rfl ?_
    refine A_aload_n dX11_order_155 rfl ?_
    refine A_getf dX11_order_156 fw_X11_130 ob11 rfl ?_
    refine A_icmp_ge dX11_order_159 (fun hc => ?_) (fun hc => ?_)
    · have h := gT_go hc h
      exact A_le (lvLe_s (lvLe_s (lvLe_s (lvLe_n (lvLe_n lvLe_0))))) (hK154 _ _ h)
    · have h := gF_go hc h
      refine A_iconst (v := 0) dX11_order_162 (by decide) ?_
      refine A_istoren3 dX11_order_163 (by decide) rfl ?_
      refine A_iconst (v := 0) dX11_order_164 (by decide) ?_
      refine A_istore4 dX11_order_165 (by decide) rfl ?_
      refine f_X11_order_L167_ok _ _ FU _ _ _ _ h (fun w27 w28 M29 h => ?_)
      refine A_aload_n dX11_order_238 rfl ?_
      refine A_getf dX11_order_239 fw_X11_114 ob11 rfl ?_
      refine A_iload_n dX11_order_242 rfl ?_
      obtain ⟨hg, h⟩ := gV_go h
      refine A_zald dX11_order_243 za98 hg ?_
      refine A_if_eq dX11_order_244 (fun hc => ?_) (fun hc => ?_)
      · have h := gT_go hc h
        refine A_iinc2 (d := 1) dX11_order_254 (by decide) (by decide) rfl ?_
        refine A_goto dX11_order_257 ?_
        exact A_le (lvLe_s (lvLe_s (lvLe_s (lvLe_n (lvLe_n lvLe_0))))) (ih154 _ _ K154 h hK154)
      · have h := gF_go hc h
        refine A_iload_n dX11_order_247 rfl ?_
        refine A_iload_n dX11_order_248 rfl ?_
        refine A_icmp_ne dX11_order_249 (fun hc => ?_) (fun hc => ?_)
        · have h := gF_go hc h
          refine A_iinc2 (d := 1) dX11_order_254 (by decide) (by decide) rfl ?_
          refine A_goto dX11_order_257 ?_
          exact A_le (lvLe_s (lvLe_s (lvLe_s (lvLe_n (lvLe_n lvLe_0))))) (ih154 _ _ K154 h hK154)
        · have h := gT_go hc h
          refine A_iload_n dX11_order_252 rfl ?_
          exact A_iret dX11_order_253 (pI_go h)
def f_X11_order (v1 : Int32) (M : Mem) : Option Ret := if 0 ≤ v1 then (f_X11_order_L12 v1 FU (0 : Int32) M (fun w22 M23 => f_X11_order_L154 v1 FU (0 : Int32) M23 (fun w30 M31 => bE (f_X11_finding (2 : Int32) M31) (fun r33 M32 => some (r33, M32))))) else (bE (f_X11_finding (1 : Int32) M) (fun r35 M34 => some (r35, M34)))
set_option maxRecDepth 100000 in
theorem ok_X11_order {l : Launch} {g : Cx} {v1 : Int32} {M : Mem} {r : Int32} {Mr : Mem} (h : f_X11_order v1 M = some (r, Mr)) : CT l g yX11_order cX11_order 5 (some .int) 4 103 [.ref (g.1 11), .int v1] M (PI r Mr) := by
  refine CT_of (lv := [some (.ref (g.1 11)), some (.int v1), none, none, none]) (by decide) rfl (Nat.le_of_ble_eq_true rfl) ?_
  unfold f_X11_order at h
  refine A_iload_n dX11_order_0 rfl ?_
  refine A_if_ge dX11_order_1 (fun hc => ?_) (fun hc => ?_)
  · have h := gT_go hc h
    refine A_iconst (v := 0) dX11_order_10 (by decide) ?_
    refine A_istoren2 dX11_order_11 (by decide) rfl ?_
    refine f_X11_order_L12_ok _ FU _ _ _ h (fun w22 M23 h => ?_)
    refine A_iconst (v := 0) dX11_order_152 (by decide) ?_
    refine A_istoren2 dX11_order_153 (by decide) rfl ?_
    refine f_X11_order_L154_ok _ FU _ _ _ h (fun w30 M31 h => ?_)
    refine A_aload_n dX11_order_260 rfl ?_
    refine A_iconst (v := 2) dX11_order_261 (by decide) ?_
    obtain ⟨r33, M32, h1, h⟩ := bE_go h
    refine A_cVi1 dX11_order_262 ml_X11_137 mb_X11_finding mi_X11_finding ob11 rfl rfl ⟨Nat.le_of_ble_eq_true rfl, Nat.le_of_ble_eq_true rfl⟩ (Nat.le_of_ble_eq_true rfl) (ok_X11_finding h1) ?_
    exact A_iret dX11_order_265 (pI_go h)
  · have h := gF_go hc h
    refine A_aload_n dX11_order_4 rfl ?_
    refine A_iconst (v := 1) dX11_order_5 (by decide) ?_
    obtain ⟨r35, M34, h1, h⟩ := bE_go h
    refine A_cVi1 dX11_order_6 ml_X11_137 mb_X11_finding mi_X11_finding ob11 rfl rfl ⟨Nat.le_of_ble_eq_true rfl, Nat.le_of_ble_eq_true rfl⟩ (Nat.le_of_ble_eq_true rfl) (ok_X11_finding h1) ?_
    exact A_iret dX11_order_9 (pI_go h)
