-- BenchTimesModel.part
theorem dX11_part_0 : di cX11_part 0 (.aload_n 0) 1 1 := ⟨by decide +kernel, rfl⟩
theorem dX11_part_1 : di cX11_part 1 (.iload_n 1) 1 2 := ⟨by decide +kernel, rfl⟩
theorem dX11_part_2 : di cX11_part 2 (.invokevirtual 176) 3 5 := ⟨by decide +kernel, rfl⟩
theorem dX11_part_5 : dj cX11_part 5 (.ifCond .eq) 8 26 := ⟨21, by decide +kernel, rfl, rfl⟩
theorem dX11_part_8 : di cX11_part 8 (.aload_n 0) 1 9 := ⟨by decide +kernel, rfl⟩
theorem dX11_part_9 : di cX11_part 9 (.iload_n 2) 1 10 := ⟨by decide +kernel, rfl⟩
theorem dX11_part_10 : di cX11_part 10 (.invokevirtual 141) 3 13 := ⟨by decide +kernel, rfl⟩
theorem dX11_part_13 : dj cX11_part 13 (.ifCond .eq) 16 26 := ⟨13, by decide +kernel, rfl, rfl⟩
theorem dX11_part_16 : di cX11_part 16 (.iload_n 3) 1 17 := ⟨by decide +kernel, rfl⟩
theorem dX11_part_17 : di cX11_part 17 (.iconst 1) 1 18 := ⟨by decide +kernel, rfl⟩
theorem dX11_part_18 : di cX11_part 18 (.bipush 9) 2 20 := ⟨by decide +kernel, rfl⟩
theorem dX11_part_20 : di cX11_part 20 (.invokestatic 133) 3 23 := ⟨by decide +kernel, rfl⟩
theorem dX11_part_23 : dj cX11_part 23 (.ifCond .ne) 26 32 := ⟨9, by decide +kernel, rfl, rfl⟩
theorem dX11_part_26 : di cX11_part 26 (.aload_n 0) 1 27 := ⟨by decide +kernel, rfl⟩
theorem dX11_part_27 : di cX11_part 27 (.iconst 1) 1 28 := ⟨by decide +kernel, rfl⟩
theorem dX11_part_28 : di cX11_part 28 (.invokevirtual 137) 3 31 := ⟨by decide +kernel, rfl⟩
theorem dX11_part_31 : di cX11_part 31 (.ireturn) 1 32 := ⟨by decide +kernel, rfl⟩
theorem dX11_part_32 : di cX11_part 32 (.aload_n 0) 1 33 := ⟨by decide +kernel, rfl⟩
theorem dX11_part_33 : di cX11_part 33 (.iload_n 1) 1 34 := ⟨by decide +kernel, rfl⟩
theorem dX11_part_34 : di cX11_part 34 (.invokevirtual 179) 3 37 := ⟨by decide +kernel, rfl⟩
theorem dX11_part_37 : dj cX11_part 37 (.ifCond .lt) 40 44 := ⟨7, by decide +kernel, rfl, rfl⟩
theorem dX11_part_40 : di cX11_part 40 (.iconst 1) 1 41 := ⟨by decide +kernel, rfl⟩
theorem dX11_part_41 : dj cX11_part 41 .goto 44 45 := ⟨4, by decide +kernel, rfl, rfl⟩
theorem dX11_part_44 : di cX11_part 44 (.iconst 0) 1 45 := ⟨by decide +kernel, rfl⟩
theorem dX11_part_45 : di cX11_part 45 (.istore 4) 2 47 := ⟨by decide +kernel, rfl⟩
theorem dX11_part_47 : di cX11_part 47 (.iconst 0) 1 48 := ⟨by decide +kernel, rfl⟩
theorem dX11_part_48 : di cX11_part 48 (.istore 5) 2 50 := ⟨by decide +kernel, rfl⟩
theorem dX11_part_50 : di cX11_part 50 (.iload 5) 2 52 := ⟨by decide +kernel, rfl⟩
theorem dX11_part_52 : di cX11_part 52 (.aload_n 0) 1 53 := ⟨by decide +kernel, rfl⟩
theorem dX11_part_53 : di cX11_part 53 (.getfield 38) 3 56 := ⟨by decide +kernel, rfl⟩
theorem dX11_part_56 : di cX11_part 56 (.iload_n 1) 1 57 := ⟨by decide +kernel, rfl⟩
theorem dX11_part_57 : di cX11_part 57 (.iaload) 1 58 := ⟨by decide +kernel, rfl⟩
theorem dX11_part_58 : dj cX11_part 58 (.if_icmp .ge) 61 93 := ⟨35, by decide +kernel, rfl, rfl⟩
theorem dX11_part_61 : di cX11_part 61 (.iload 4) 2 63 := ⟨by decide +kernel, rfl⟩
theorem dX11_part_63 : di cX11_part 63 (.aload_n 0) 1 64 := ⟨by decide +kernel, rfl⟩
theorem dX11_part_64 : di cX11_part 64 (.getfield 41) 3 67 := ⟨by decide +kernel, rfl⟩
theorem dX11_part_67 : di cX11_part 67 (.bipush 6) 2 69 := ⟨by decide +kernel, rfl⟩
theorem dX11_part_69 : di cX11_part 69 (.iload_n 1) 1 70 := ⟨by decide +kernel, rfl⟩
theorem dX11_part_70 : di cX11_part 70 (.imul) 1 71 := ⟨by decide +kernel, rfl⟩
theorem dX11_part_71 : di cX11_part 71 (.iload 5) 2 73 := ⟨by decide +kernel, rfl⟩
theorem dX11_part_73 : di cX11_part 73 (.iadd) 1 74 := ⟨by decide +kernel, rfl⟩
theorem dX11_part_74 : di cX11_part 74 (.iaload) 1 75 := ⟨by decide +kernel, rfl⟩
theorem dX11_part_75 : di cX11_part 75 (.iload_n 2) 1 76 := ⟨by decide +kernel, rfl⟩
theorem dX11_part_76 : dj cX11_part 76 (.if_icmp .ne) 79 83 := ⟨7, by decide +kernel, rfl, rfl⟩
theorem dX11_part_79 : di cX11_part 79 (.iconst 1) 1 80 := ⟨by decide +kernel, rfl⟩
theorem dX11_part_80 : dj cX11_part 80 .goto 83 84 := ⟨4, by decide +kernel, rfl, rfl⟩
theorem dX11_part_83 : di cX11_part 83 (.iconst 0) 1 84 := ⟨by decide +kernel, rfl⟩
theorem dX11_part_84 : di cX11_part 84 (.ior) 1 85 := ⟨by decide +kernel, rfl⟩
theorem dX11_part_85 : di cX11_part 85 (.istore 4) 2 87 := ⟨by decide +kernel, rfl⟩
theorem dX11_part_87 : di cX11_part 87 (.iinc 5 1) 3 90 := ⟨by decide +kernel, rfl⟩
theorem dX11_part_90 : dj cX11_part 90 .goto 93 50 := ⟨-40, by decide +kernel, rfl, rfl⟩
theorem dX11_part_93 : di cX11_part 93 (.iload 4) 2 95 := ⟨by decide +kernel, rfl⟩
theorem dX11_part_95 : dj cX11_part 95 (.ifCond .eq) 98 104 := ⟨9, by decide +kernel, rfl, rfl⟩
theorem dX11_part_98 : di cX11_part 98 (.aload_n 0) 1 99 := ⟨by decide +kernel, rfl⟩
theorem dX11_part_99 : di cX11_part 99 (.iconst 3) 1 100 := ⟨by decide +kernel, rfl⟩
theorem dX11_part_100 : di cX11_part 100 (.invokevirtual 137) 3 103 := ⟨by decide +kernel, rfl⟩
theorem dX11_part_103 : di cX11_part 103 (.ireturn) 1 104 := ⟨by decide +kernel, rfl⟩
theorem dX11_part_104 : di cX11_part 104 (.aload_n 0) 1 105 := ⟨by decide +kernel, rfl⟩
theorem dX11_part_105 : di cX11_part 105 (.getfield 38) 3 108 := ⟨by decide +kernel, rfl⟩
theorem dX11_part_108 : di cX11_part 108 (.iload_n 1) 1 109 := ⟨by decide +kernel, rfl⟩
theorem dX11_part_109 : di cX11_part 109 (.iaload) 1 110 := ⟨by decide +kernel, rfl⟩
theorem dX11_part_110 : di cX11_part 110 (.bipush 6) 2 112 := ⟨by decide +kernel, rfl⟩
theorem dX11_part_112 : dj cX11_part 112 (.if_icmp .ne) 115 121 := ⟨9, by decide +kernel, rfl, rfl⟩
theorem dX11_part_115 : di cX11_part 115 (.aload_n 0) 1 116 := ⟨by decide +kernel, rfl⟩
theorem dX11_part_116 : di cX11_part 116 (.iconst 4) 1 117 := ⟨by decide +kernel, rfl⟩
theorem dX11_part_117 : di cX11_part 117 (.invokevirtual 137) 3 120 := ⟨by decide +kernel, rfl⟩
theorem dX11_part_120 : di cX11_part 120 (.ireturn) 1 121 := ⟨by decide +kernel, rfl⟩
theorem dX11_part_121 : di cX11_part 121 (.aload_n 0) 1 122 := ⟨by decide +kernel, rfl⟩
theorem dX11_part_122 : di cX11_part 122 (.getfield 41) 3 125 := ⟨by decide +kernel, rfl⟩
theorem dX11_part_125 : di cX11_part 125 (.bipush 6) 2 127 := ⟨by decide +kernel, rfl⟩
theorem dX11_part_127 : di cX11_part 127 (.iload_n 1) 1 128 := ⟨by decide +kernel, rfl⟩
theorem dX11_part_128 : di cX11_part 128 (.imul) 1 129 := ⟨by decide +kernel, rfl⟩
theorem dX11_part_129 : di cX11_part 129 (.aload_n 0) 1 130 := ⟨by decide +kernel, rfl⟩
theorem dX11_part_130 : di cX11_part 130 (.getfield 38) 3 133 := ⟨by decide +kernel, rfl⟩
theorem dX11_part_133 : di cX11_part 133 (.iload_n 1) 1 134 := ⟨by decide +kernel, rfl⟩
theorem dX11_part_134 : di cX11_part 134 (.iaload) 1 135 := ⟨by decide +kernel, rfl⟩
theorem dX11_part_135 : di cX11_part 135 (.iadd) 1 136 := ⟨by decide +kernel, rfl⟩
theorem dX11_part_136 : di cX11_part 136 (.iload_n 2) 1 137 := ⟨by decide +kernel, rfl⟩
theorem dX11_part_137 : di cX11_part 137 (.iastore) 1 138 := ⟨by decide +kernel, rfl⟩
theorem dX11_part_138 : di cX11_part 138 (.aload_n 0) 1 139 := ⟨by decide +kernel, rfl⟩
theorem dX11_part_139 : di cX11_part 139 (.getfield 44) 3 142 := ⟨by decide +kernel, rfl⟩
theorem dX11_part_142 : di cX11_part 142 (.bipush 6) 2 144 := ⟨by decide +kernel, rfl⟩
theorem dX11_part_144 : di cX11_part 144 (.iload_n 1) 1 145 := ⟨by decide +kernel, rfl⟩
theorem dX11_part_145 : di cX11_part 145 (.imul) 1 146 := ⟨by decide +kernel, rfl⟩
theorem dX11_part_146 : di cX11_part 146 (.aload_n 0) 1 147 := ⟨by decide +kernel, rfl⟩
theorem dX11_part_147 : di cX11_part 147 (.getfield 38) 3 150 := ⟨by decide +kernel, rfl⟩
theorem dX11_part_150 : di cX11_part 150 (.iload_n 1) 1 151 := ⟨by decide +kernel, rfl⟩
theorem dX11_part_151 : di cX11_part 151 (.iaload) 1 152 := ⟨by decide +kernel, rfl⟩
theorem dX11_part_152 : di cX11_part 152 (.iadd) 1 153 := ⟨by decide +kernel, rfl⟩
theorem dX11_part_153 : di cX11_part 153 (.iload_n 3) 1 154 := ⟨by decide +kernel, rfl⟩
theorem dX11_part_154 : di cX11_part 154 (.iastore) 1 155 := ⟨by decide +kernel, rfl⟩
theorem dX11_part_155 : di cX11_part 155 (.aload_n 0) 1 156 := ⟨by decide +kernel, rfl⟩
theorem dX11_part_156 : di cX11_part 156 (.getfield 38) 3 159 := ⟨by decide +kernel, rfl⟩
theorem dX11_part_159 : di cX11_part 159 (.iload_n 1) 1 160 := ⟨by decide +kernel, rfl⟩
theorem dX11_part_160 : di cX11_part 160 (.dup2) 1 161 := ⟨by decide +kernel, rfl⟩
theorem dX11_part_161 : di cX11_part 161 (.iaload) 1 162 := ⟨by decide +kernel, rfl⟩
theorem dX11_part_162 : di cX11_part 162 (.iconst 1) 1 163 := ⟨by decide +kernel, rfl⟩
theorem dX11_part_163 : di cX11_part 163 (.iadd) 1 164 := ⟨by decide +kernel, rfl⟩
theorem dX11_part_164 : di cX11_part 164 (.iastore) 1 165 := ⟨by decide +kernel, rfl⟩
theorem dX11_part_165 : di cX11_part 165 (.aload_n 0) 1 166 := ⟨by decide +kernel, rfl⟩
theorem dX11_part_166 : di cX11_part 166 (.getfield 38) 3 169 := ⟨by decide +kernel, rfl⟩
theorem dX11_part_169 : di cX11_part 169 (.iload_n 1) 1 170 := ⟨by decide +kernel, rfl⟩
theorem dX11_part_170 : di cX11_part 170 (.iaload) 1 171 := ⟨by decide +kernel, rfl⟩
theorem dX11_part_171 : di cX11_part 171 (.ireturn) 1 172 := ⟨by decide +kernel, rfl⟩
def f_X11_part_L50 (v1 : Int32) (v2 : Int32) (v3 : Int32) : Nat → Int32 → Int32 → Mem → (Int32 → Int32 → Mem → Option Ret) → Option Ret
  | 0, _, _, _, _ => none
  | k50 + 1, v4, v5, M, K50 => gV v1 8 (if (M.1 73 v1.toNatClampNeg) ≤ v5 then (K50 v4 v5 M) else (gV (((6 : Int32) * v1) + v5) 48 (jn (α := Int32 → Option Ret) (fun (z16 : Int32) => bI (v4 ||| z16) (fun x17 => f_X11_part_L50 v1 v2 v3 k50 x17 (v5 + (1 : Int32)) M K50)) (fun J15 => if (M.1 74 (((6 : Int32) * v1) + v5).toNatClampNeg) = v2 then (J15 (1 : Int32)) else (J15 (0 : Int32))))))
set_option maxRecDepth 100000 in
theorem f_X11_part_L50_ok {l : Launch} {g : Cx} (v1 : Int32) (v2 : Int32) (v3 : Int32)  {r : Int32} {Mr : Mem} : ∀ (k : Nat) (v4 : Int32) (v5 : Int32) (M : Mem) (K50 : Int32 → Int32 → Mem → Option Ret), f_X11_part_L50 v1 v2 v3 k v4 v5 M K50 = some (r, Mr) → (∀ (v4 : Int32) (v5 : Int32) (M : Mem), K50 v4 v5 M = some (r, Mr) → AT l g RX11 cX11_part 6 (some .int) (rmM 1 23) (PI r Mr) 93 [some (.ref (g.1 11)), some (.int v1), some (.int v2), some (.int v3), some (.int v4), some (.int v5)] [] M) → AT l g RX11 cX11_part 6 (some .int) (rmM 1 23) (PI r Mr) 50 [some (.ref (g.1 11)), some (.int v1), some (.int v2), some (.int v3), some (.int v4), some (.int v5)] [] M
  | 0, v4, v5, M, K50, h, hK50 => by cases h
  | k50 + 1, v4, v5, M, K50, h, hK50 => by
    have ih50 := f_X11_part_L50_ok (l := l) (g := g) v1 v2 v3 (r := r) (Mr := Mr) k50
    rw [f_X11_part_L50] at h
    refine A_iload dX11_part_50 rfl ?_
    refine A_aload_n dX11_part_52 rfl ?_
    refine A_getf dX11_part_53 fw_X11_38 ob11 rfl ?_
    refine A_iload_n dX11_part_56 rfl ?_
    obtain ⟨hg, h⟩ := gV_go h
    refine A_iald dX11_part_57 ia73 hg ?_
    refine A_icmp_ge dX11_part_58 (fun hc => ?_) (fun hc => ?_)
    · have h := gT_go hc h
      exact A_le (lvLe_s (lvLe_s (lvLe_s (lvLe_s (lvLe_s (lvLe_s lvLe_0)))))) (hK50 _ _ _ h)
    · have h := gF_go hc h
      refine A_iload dX11_part_61 rfl ?_
      refine A_aload_n dX11_part_63 rfl ?_
      refine A_getf dX11_part_64 fw_X11_41 ob11 rfl ?_
      refine A_bipush (v := 6) dX11_part_67 (by decide) ?_
      refine A_iload_n dX11_part_69 rfl ?_
      refine A_imul dX11_part_70 ?_
      refine A_iload dX11_part_71 rfl ?_
      refine A_iadd dX11_part_73 ?_
      obtain ⟨hg, h⟩ := gV_go h
      refine A_iald dX11_part_74 ia74 hg ?_
      refine A_iload_n dX11_part_75 rfl ?_
      obtain ⟨J15, hJ15, h⟩ := jn_go h
      have JJ15 : ∀ (z16 : Int32), J15 z16 = some (r, Mr) → AT l g RX11 cX11_part 6 (some .int) (rmM 1 23) (PI r Mr) 84 [some (.ref (g.1 11)), some (.int v1), some (.int v2), some (.int v3), some (.int v4), some (.int v5)] [.int z16, .int v4] M := by
        intro z16 h
        rw [hJ15] at h
        refine A_ior dX11_part_84 ?_
        refine A_istore4 dX11_part_85 (by decide) rfl (bI_go h (G := fun z => AT l g RX11 cX11_part 6 (some .int) (rmM 1 23) (PI r Mr) 87 [some (.ref (g.1 11)), some (.int v1), some (.int v2), some (.int v3), some (.int z), some (.int v5)] [] M) (fun x17 h => ?_))
        refine A_iinc5 (d := 1) dX11_part_87 (by decide) (by decide) rfl ?_
        refine A_goto dX11_part_90 ?_
        exact A_le (lvLe_s (lvLe_s (lvLe_s (lvLe_s (lvLe_s (lvLe_s lvLe_0)))))) (ih50 _ _ _ K50 h hK50)
      refine A_icmp_ne dX11_part_76 (fun hc => ?_) (fun hc => ?_)
      · have h := gF_go hc h
        refine A_iconst (v := 0) dX11_part_83 (by decide) ?_
        exact A_le (lvLe_s (lvLe_s (lvLe_s (lvLe_s (lvLe_s (lvLe_s lvLe_0)))))) (JJ15 _ h)
      · have h := gT_go hc h
        refine A_iconst (v := 1) dX11_part_79 (by decide) ?_
        refine A_goto dX11_part_80 ?_
        exact A_le (lvLe_s (lvLe_s (lvLe_s (lvLe_s (lvLe_s (lvLe_s lvLe_0)))))) (JJ15 _ h)
def f_X11_part (v1 : Int32) (v2 : Int32) (v3 : Int32) (M : Mem) : Option Ret := bE (f_X11_isJob v1 M) (fun r2 M1 => if r2 = 0 then (bE (f_X11_finding (1 : Int32) M1) (fun r4 M3 => some (r4, M3))) else (bE (f_X11_isElement v2 M1) (fun r6 M5 => if r6 = 0 then (bE (f_X11_finding (1 : Int32) M5) (fun r8 M7 => some (r8, M7))) else (bE (f_X11_isIn v3 (1 : Int32) (9 : Int32) M5) (fun r10 M9 => if r10 = 0 then (bE (f_X11_finding (1 : Int32) M9) (fun r29 M28 => some (r29, M28))) else (bE (f_X11_latestOf v1 M9) (fun r12 M11 => jn (α := Int32 → Option Ret) (fun (z14 : Int32) => f_X11_part_L50 v1 v2 v3 FU z14 (0 : Int32) M11 (fun w18 w19 M20 => if w18 = 0 then (gV v1 8 (if (M20.1 73 v1.toNatClampNeg) = (6 : Int32) then (bE (f_X11_finding (4 : Int32) M20) (fun r25 M24 => some (r25, M24))) else (gV v1 8 (gV (((6 : Int32) * v1) + (M20.1 73 v1.toNatClampNeg)) 48 (bM (up2 M20 74 (((6 : Int32) * v1) + (M20.1 73 v1.toNatClampNeg)).toNatClampNeg v2) (fun M21 => gV v1 8 (gV (((6 : Int32) * v1) + (M21.1 73 v1.toNatClampNeg)) 48 (bM (up2 M21 75 (((6 : Int32) * v1) + (M21.1 73 v1.toNatClampNeg)).toNatClampNeg v3) (fun M22 => gV v1 8 (gV v1 8 (bM (up2 M22 73 v1.toNatClampNeg ((M22.1 73 v1.toNatClampNeg) + (1 : Int32))) (fun M23 => gV v1 8 (some (M23.1 73 v1.toNatClampNeg, M23)))))))))))))) else (bE (f_X11_finding (3 : Int32) M20) (fun r27 M26 => some (r27, M26))))) (fun J13 => if r12 < 0 then (J13 (0 : Int32)) else (J13 (1 : Int32))))))))))
set_option maxRecDepth 100000 in
theorem ok_X11_part {l : Launch} {g : Cx} {v1 : Int32} {v2 : Int32} {v3 : Int32} {M : Mem} {r : Int32} {Mr : Mem} (h : f_X11_part v1 v2 v3 M = some (r, Mr)) : CT l g yX11_part cX11_part 6 (some .int) 1 23 [.ref (g.1 11), .int v1, .int v2, .int v3] M (PI r Mr) := by
  refine CT_of (lv := [some (.ref (g.1 11)), some (.int v1), some (.int v2), some (.int v3), none, none]) (by decide) rfl (Nat.le_of_ble_eq_true rfl) ?_
  unfold f_X11_part at h
  refine A_aload_n dX11_part_0 rfl ?_
  refine A_iload_n dX11_part_1 rfl ?_
  obtain ⟨r2, M1, h1, h⟩ := bE_go h
  refine A_cVi1 dX11_part_2 ml_X11_176 mb_X11_isJob mi_X11_isJob ob11 rfl rfl ⟨Nat.le_of_ble_eq_true rfl, Nat.le_of_ble_eq_true rfl⟩ (Nat.le_of_ble_eq_true rfl) (ok_X11_isJob h1) ?_
  refine A_if_eq dX11_part_5 (fun hc => ?_) (fun hc => ?_)
  · have h := gT_go hc h
    refine A_aload_n dX11_part_26 rfl ?_
    refine A_iconst (v := 1) dX11_part_27 (by decide) ?_
    obtain ⟨r4, M3, h1, h⟩ := bE_go h
    refine A_cVi1 dX11_part_28 ml_X11_137 mb_X11_finding mi_X11_finding ob11 rfl rfl ⟨Nat.le_of_ble_eq_true rfl, Nat.le_of_ble_eq_true rfl⟩ (Nat.le_of_ble_eq_true rfl) (ok_X11_finding h1) ?_
    exact A_iret dX11_part_31 (pI_go h)
  · have h := gF_go hc h
    refine A_aload_n dX11_part_8 rfl ?_
    refine A_iload_n dX11_part_9 rfl ?_
    obtain ⟨r6, M5, h1, h⟩ := bE_go h
    refine A_cVi1 dX11_part_10 ml_X11_141 mb_X11_isElement mi_X11_isElement ob11 rfl rfl ⟨Nat.le_of_ble_eq_true rfl, Nat.le_of_ble_eq_true rfl⟩ (Nat.le_of_ble_eq_true rfl) (ok_X11_isElement h1) ?_
    refine A_if_eq dX11_part_13 (fun hc => ?_) (fun hc => ?_)
    · have h := gT_go hc h
      refine A_aload_n dX11_part_26 rfl ?_
      refine A_iconst (v := 1) dX11_part_27 (by decide) ?_
      obtain ⟨r8, M7, h1, h⟩ := bE_go h
      refine A_cVi1 dX11_part_28 ml_X11_137 mb_X11_finding mi_X11_finding ob11 rfl rfl ⟨Nat.le_of_ble_eq_true rfl, Nat.le_of_ble_eq_true rfl⟩ (Nat.le_of_ble_eq_true rfl) (ok_X11_finding h1) ?_
      exact A_iret dX11_part_31 (pI_go h)
    · have h := gF_go hc h
      refine A_iload_n dX11_part_16 rfl ?_
      refine A_iconst (v := 1) dX11_part_17 (by decide) ?_
      refine A_bipush (v := 9) dX11_part_18 (by decide) ?_
      obtain ⟨r10, M9, h1, h⟩ := bE_go h
      refine A_cSi3 dX11_part_20 ml_X11_133 mb_X11_isIn ms_X11_isIn ⟨Nat.le_of_ble_eq_true rfl, Nat.le_of_ble_eq_true rfl⟩ (Nat.le_of_ble_eq_true rfl) (ok_X11_isIn h1) ?_
      refine A_if_ne dX11_part_23 (fun hc => ?_) (fun hc => ?_)
      · have h := gF_go hc h
        refine A_aload_n dX11_part_32 rfl ?_
        refine A_iload_n dX11_part_33 rfl ?_
        obtain ⟨r12, M11, h1, h⟩ := bE_go h
        refine A_cVi1 dX11_part_34 ml_X11_179 mb_X11_latestOf mi_X11_latestOf ob11 rfl rfl ⟨Nat.le_of_ble_eq_true rfl, Nat.le_of_ble_eq_true rfl⟩ (Nat.le_of_ble_eq_true rfl) (ok_X11_latestOf h1) ?_
        obtain ⟨J13, hJ13, h⟩ := jn_go h
        have JJ13 : ∀ (z14 : Int32), J13 z14 = some (r, Mr) → AT l g RX11 cX11_part 6 (some .int) (rmM 1 23) (PI r Mr) 45 [some (.ref (g.1 11)), some (.int v1), some (.int v2), some (.int v3), none, none] [.int z14] M11 := by
          intro z14 h
          rw [hJ13] at h
          refine A_istore4 dX11_part_45 (by decide) rfl ?_
          refine A_iconst (v := 0) dX11_part_47 (by decide) ?_
          refine A_istore5 dX11_part_48 (by decide) rfl ?_
          refine f_X11_part_L50_ok _ _ _ FU _ _ _ _ h (fun w18 w19 M20 h => ?_)
          refine A_iload dX11_part_93 rfl ?_
          refine A_if_eq dX11_part_95 (fun hc => ?_) (fun hc => ?_)
          · have h := gT_go hc h
            refine A_aload_n dX11_part_104 rfl ?_
            refine A_getf dX11_part_105 fw_X11_38 ob11 rfl ?_
            refine A_iload_n dX11_part_108 rfl ?_
            obtain ⟨hg, h⟩ := gV_go h
            refine A_iald dX11_part_109 ia73 hg ?_
            refine A_bipush (v := 6) dX11_part_110 (by decide) ?_
            refine A_icmp_ne dX11_part_112 (fun hc => ?_) (fun hc => ?_)
            · have h := gF_go hc h
              refine A_aload_n dX11_part_121 rfl ?_
              refine A_getf dX11_part_122 fw_X11_41 ob11 rfl ?_
              refine A_bipush (v := 6) dX11_part_125 (by decide) ?_
              refine A_iload_n dX11_part_127 rfl ?_
              refine A_imul dX11_part_128 ?_
              refine A_aload_n dX11_part_129 rfl ?_
              refine A_getf dX11_part_130 fw_X11_38 ob11 rfl ?_
              refine A_iload_n dX11_part_133 rfl ?_
              obtain ⟨hg, h⟩ := gV_go h
              refine A_iald dX11_part_134 ia73 hg ?_
              refine A_iadd dX11_part_135 ?_
              refine A_iload_n dX11_part_136 rfl ?_
              obtain ⟨hg, h⟩ := gV_go h
              refine A_iast dX11_part_137 ia74 hg (bM_go h (fun M21 h => ?_))
              refine A_aload_n dX11_part_138 rfl ?_
              refine A_getf dX11_part_139 fw_X11_44 ob11 rfl ?_
              refine A_bipush (v := 6) dX11_part_142 (by decide) ?_
              refine A_iload_n dX11_part_144 rfl ?_
              refine A_imul dX11_part_145 ?_
              refine A_aload_n dX11_part_146 rfl ?_
              refine A_getf dX11_part_147 fw_X11_38 ob11 rfl ?_
              refine A_iload_n dX11_part_150 rfl ?_
              obtain ⟨hg, h⟩ := gV_go h
              refine A_iald dX11_part_151 ia73 hg ?_
              refine A_iadd dX11_part_152 ?_
              refine A_iload_n dX11_part_153 rfl ?_
              obtain ⟨hg, h⟩ := gV_go h
              refine A_iast dX11_part_154 ia75 hg (bM_go h (fun M22 h => ?_))
              refine A_aload_n dX11_part_155 rfl ?_
              refine A_getf dX11_part_156 fw_X11_38 ob11 rfl ?_
              refine A_iload_n dX11_part_159 rfl ?_
              refine A_dup2 dX11_part_160 rfl rfl ?_
              obtain ⟨hg, h⟩ := gV_go h
              refine A_iald dX11_part_161 ia73 hg ?_
              refine A_iconst (v := 1) dX11_part_162 (by decide) ?_
              refine A_iadd dX11_part_163 ?_
              obtain ⟨hg, h⟩ := gV_go h
              refine A_iast dX11_part_164 ia73 hg (bM_go h (fun M23 h => ?_))
              refine A_aload_n dX11_part_165 rfl ?_
              refine A_getf dX11_part_166 fw_X11_38 ob11 rfl ?_
              refine A_iload_n dX11_part_169 rfl ?_
              obtain ⟨hg, h⟩ := gV_go h
              refine A_iald dX11_part_170 ia73 hg ?_
              exact A_iret dX11_part_171 (pI_go h)
            · have h := gT_go hc h
              refine A_aload_n dX11_part_115 rfl ?_
              refine A_iconst (v := 4) dX11_part_116 (by decide) ?_
              obtain ⟨r25, M24, h1, h⟩ := bE_go h
              refine A_cVi1 dX11_part_117 ml_X11_137 mb_X11_finding mi_X11_finding ob11 rfl rfl ⟨Nat.le_of_ble_eq_true rfl, Nat.le_of_ble_eq_true rfl⟩ (Nat.le_of_ble_eq_true rfl) (ok_X11_finding h1) ?_
              exact A_iret dX11_part_120 (pI_go h)
          · have h := gF_go hc h
            refine A_aload_n dX11_part_98 rfl ?_
            refine A_iconst (v := 3) dX11_part_99 (by decide) ?_
            obtain ⟨r27, M26, h1, h⟩ := bE_go h
            refine A_cVi1 dX11_part_100 ml_X11_137 mb_X11_finding mi_X11_finding ob11 rfl rfl ⟨Nat.le_of_ble_eq_true rfl, Nat.le_of_ble_eq_true rfl⟩ (Nat.le_of_ble_eq_true rfl) (ok_X11_finding h1) ?_
            exact A_iret dX11_part_103 (pI_go h)
        refine A_if_lt dX11_part_37 (fun hc => ?_) (fun hc => ?_)
        · have h := gT_go hc h
          refine A_iconst (v := 0) dX11_part_44 (by decide) ?_
          exact A_le (lvLe_s (lvLe_s (lvLe_s (lvLe_s (lvLe_n (lvLe_n lvLe_0)))))) (JJ13 _ h)
        · have h := gF_go hc h
          refine A_iconst (v := 1) dX11_part_40 (by decide) ?_
          refine A_goto dX11_part_41 ?_
          exact A_le (lvLe_s (lvLe_s (lvLe_s (lvLe_s (lvLe_n (lvLe_n lvLe_0)))))) (JJ13 _ h)
      · have h := gT_go hc h
        refine A_aload_n dX11_part_26 rfl ?_
        refine A_iconst (v := 1) dX11_part_27 (by decide) ?_
        obtain ⟨r29, M28, h1, h⟩ := bE_go h
        refine A_cVi1 dX11_part_28 ml_X11_137 mb_X11_finding mi_X11_finding ob11 rfl rfl ⟨Nat.le_of_ble_eq_true rfl, Nat.le_of_ble_eq_true rfl⟩ (Nat.le_of_ble_eq_true rfl) (ok_X11_finding h1) ?_
        exact A_iret dX11_part_31 (pI_go h)
-- BenchTimesModel.sumOf
theorem dX11_sumOf_0 : di cX11_sumOf 0 (.iconst 0) 1 1 := ⟨by decide +kernel, rfl⟩
theorem dX11_sumOf_1 : di cX11_sumOf 1 (.istore_n 2) 1 2 := ⟨by decide +kernel, rfl⟩
theorem dX11_sumOf_2 : di cX11_sumOf 2 (.iconst 0) 1 3 := ⟨by decide +kernel, rfl⟩
theorem dX11_sumOf_3 : di cX11_sumOf 3 (.istore_n 3) 1 4 := ⟨by decide +kernel, rfl⟩
theorem dX11_sumOf_4 : di cX11_sumOf 4 (.iload_n 3) 1 5 := ⟨by decide +kernel, rfl⟩
theorem dX11_sumOf_5 : di cX11_sumOf 5 (.aload_n 0) 1 6 := ⟨by decide +kernel, rfl⟩
theorem dX11_sumOf_6 : di cX11_sumOf 6 (.getfield 38) 3 9 := ⟨by decide +kernel, rfl⟩
theorem dX11_sumOf_9 : di cX11_sumOf 9 (.aload_n 0) 1 10 := ⟨by decide +kernel, rfl⟩
theorem dX11_sumOf_10 : di cX11_sumOf 10 (.getfield 51) 3 13 := ⟨by decide +kernel, rfl⟩
theorem dX11_sumOf_13 : di cX11_sumOf 13 (.iload_n 1) 1 14 := ⟨by decide +kernel, rfl⟩
theorem dX11_sumOf_14 : di cX11_sumOf 14 (.iaload) 1 15 := ⟨by decide +kernel, rfl⟩
theorem dX11_sumOf_15 : di cX11_sumOf 15 (.iaload) 1 16 := ⟨by decide +kernel, rfl⟩
theorem dX11_sumOf_16 : dj cX11_sumOf 16 (.if_icmp .ge) 19 56 := ⟨40, by decide +kernel, rfl, rfl⟩
theorem dX11_sumOf_19 : di cX11_sumOf 19 (.iload_n 2) 1 20 := ⟨by decide +kernel, rfl⟩
theorem dX11_sumOf_20 : di cX11_sumOf 20 (.aload_n 0) 1 21 := ⟨by decide +kernel, rfl⟩
theorem dX11_sumOf_21 : di cX11_sumOf 21 (.getfield 57) 3 24 := ⟨by decide +kernel, rfl⟩
theorem dX11_sumOf_24 : di cX11_sumOf 24 (.bipush 6) 2 26 := ⟨by decide +kernel, rfl⟩
theorem dX11_sumOf_26 : di cX11_sumOf 26 (.iload_n 1) 1 27 := ⟨by decide +kernel, rfl⟩
theorem dX11_sumOf_27 : di cX11_sumOf 27 (.imul) 1 28 := ⟨by decide +kernel, rfl⟩
theorem dX11_sumOf_28 : di cX11_sumOf 28 (.iload_n 3) 1 29 := ⟨by decide +kernel, rfl⟩
theorem dX11_sumOf_29 : di cX11_sumOf 29 (.iadd) 1 30 := ⟨by decide +kernel, rfl⟩
theorem dX11_sumOf_30 : di cX11_sumOf 30 (.iaload) 1 31 := ⟨by decide +kernel, rfl⟩
theorem dX11_sumOf_31 : di cX11_sumOf 31 (.aload_n 0) 1 32 := ⟨by decide +kernel, rfl⟩
theorem dX11_sumOf_32 : di cX11_sumOf 32 (.getfield 44) 3 35 := ⟨by decide +kernel, rfl⟩
theorem dX11_sumOf_35 : di cX11_sumOf 35 (.bipush 6) 2 37 := ⟨by decide +kernel, rfl⟩
theorem dX11_sumOf_37 : di cX11_sumOf 37 (.aload_n 0) 1 38 := ⟨by decide +kernel, rfl⟩
theorem dX11_sumOf_38 : di cX11_sumOf 38 (.getfield 51) 3 41 := ⟨by decide +kernel, rfl⟩
theorem dX11_sumOf_41 : di cX11_sumOf 41 (.iload_n 1) 1 42 := ⟨by decide +kernel, rfl⟩
theorem dX11_sumOf_42 : di cX11_sumOf 42 (.iaload) 1 43 := ⟨by decide +kernel, rfl⟩
theorem dX11_sumOf_43 : di cX11_sumOf 43 (.imul) 1 44 := ⟨by decide +kernel, rfl⟩
theorem dX11_sumOf_44 : di cX11_sumOf 44 (.iload_n 3) 1 45 := ⟨by decide +kernel, rfl⟩
theorem dX11_sumOf_45 : di cX11_sumOf 45 (.iadd) 1 46 := ⟨by decide +kernel, rfl⟩
theorem dX11_sumOf_46 : di cX11_sumOf 46 (.iaload) 1 47 := ⟨by decide +kernel, rfl⟩
theorem dX11_sumOf_47 : di cX11_sumOf 47 (.imul) 1 48 := ⟨by decide +kernel, rfl⟩
theorem dX11_sumOf_48 : di cX11_sumOf 48 (.iadd) 1 49 := ⟨by decide +kernel, rfl⟩
theorem dX11_sumOf_49 : di cX11_sumOf 49 (.istore_n 2) 1 50 := ⟨by decide +kernel, rfl⟩
theorem dX11_sumOf_50 : di cX11_sumOf 50 (.iinc 3 1) 3 53 := ⟨by decide +kernel, rfl⟩
theorem dX11_sumOf_53 : dj cX11_sumOf 53 .goto 56 4 := ⟨-49, by decide +kernel, rfl, rfl⟩
theorem dX11_sumOf_56 : di cX11_sumOf 56 (.iload_n 2) 1 57 := ⟨by decide +kernel, rfl⟩
theorem dX11_sumOf_57 : di cX11_sumOf 57 (.ireturn) 1 58 := ⟨by decide +kernel, rfl⟩
def f_X11_sumOf_L4 (v1 : Int32) : Nat → Int32 → Int32 → Mem → (Int32 → Int32 → Mem → Option Ret) → Option Ret
  | 0, _, _, _, _ => none
  | k4 + 1, v2, v3, M, K4 => gV v1 40 (gV (M.1 77 v1.toNatClampNeg) 8 (if (M.1 73 (M.1 77 v1.toNatClampNeg).toNatClampNeg) ≤ v3 then (K4 v2 v3 M) else (gV (((6 : Int32) * v1) + v3) 240 (gV v1 40 (gV (((6 : Int32) * (M.1 77 v1.toNatClampNeg)) + v3) 48 (bI (v2 + ((M.1 79 (((6 : Int32) * v1) + v3).toNatClampNeg) * (M.1 75 (((6 : Int32) * (M.1 77 v1.toNatClampNeg)) + v3).toNatClampNeg))) (fun x1 => f_X11_sumOf_L4 v1 k4 x1 (v3 + (1 : Int32)) M K4)))))))
set_option maxRecDepth 100000 in
theorem f_X11_sumOf_L4_ok {l : Launch} {g : Cx} (v1 : Int32)  {r : Int32} {Mr : Mem} : ∀ (k : Nat) (v2 : Int32) (v3 : Int32) (M : Mem) (K4 : Int32 → Int32 → Mem → Option Ret), f_X11_sumOf_L4 v1 k v2 v3 M K4 = some (r, Mr) → (∀ (v2 : Int32) (v3 : Int32) (M : Mem), K4 v2 v3 M = some (r, Mr) → AT l g RX11 cX11_sumOf 4 (some .int) (rmM 0 0) (PI r Mr) 56 [some (.ref (g.1 11)), some (.int v1), some (.int v2), some (.int v3)] [] M) → AT l g RX11 cX11_sumOf 4 (some .int) (rmM 0 0) (PI r Mr) 4 [some (.ref (g.1 11)), some (.int v1), some (.int v2), some (.int v3)] [] M
  | 0, v2, v3, M, K4, h, hK4 => by cases h
  | k4 + 1, v2, v3, M, K4, h, hK4 => by
    have ih4 := f_X11_sumOf_L4_ok (l := l) (g := g) v1 (r := r) (Mr := Mr) k4
    rw [f_X11_sumOf_L4] at h
    refine A_iload_n dX11_sumOf_4 rfl ?_
    refine A_aload_n dX11_sumOf_5 rfl ?_
    refine A_getf dX11_sumOf_6 fw_X11_38 ob11 rfl ?_
    refine A_aload_n dX11_sumOf_9 rfl ?_
    refine A_getf dX11_sumOf_10 fw_X11_51 ob11 rfl ?_
    refine A_iload_n dX11_sumOf_13 rfl ?_
    obtain ⟨hg, h⟩ := gV_go h
    refine A_iald dX11_sumOf_14 ia77 hg ?_
    obtain ⟨hg, h⟩ := gV_go h
    refine A_iald dX11_sumOf_15 ia73 hg ?_
    refine A_icmp_ge dX11_sumOf_16 (fun hc => ?_) (fun hc => ?_)
    · have h := gT_go hc h
      exact A_le (lvLe_s (lvLe_s (lvLe_s (lvLe_s lvLe_0)))) (hK4 _ _ _ h)
    · have h := gF_go hc h
      refine A_iload_n dX11_sumOf_19 rfl ?_
      refine A_aload_n dX11_sumOf_20 rfl ?_
      refine A_getf dX11_sumOf_21 fw_X11_57 ob11 rfl ?_
      refine A_bipush (v := 6) dX11_sumOf_24 (by decide) ?_
      refine A_iload_n dX11_sumOf_26 rfl ?_
      refine A_imul dX11_sumOf_27 ?_
      refine A_iload_n dX11_sumOf_28 rfl ?_
      refine A_iadd dX11_sumOf_29 ?_
      obtain ⟨hg, h⟩ := gV_go h
      refine A_iald dX11_sumOf_30 ia79 hg ?_
      refine A_aload_n dX11_sumOf_31 rfl ?_
      refine A_getf dX11_sumOf_32 fw_X11_44 ob11 rfl ?_
      refine A_bipush (v := 6) dX11_sumOf_35 (by decide) ?_
      refine A_aload_n dX11_sumOf_37 rfl ?_
      refine A_getf dX11_sumOf_38 fw_X11_51 ob11 rfl ?_
      refine A_iload_n dX11_sumOf_41 rfl ?_
      obtain ⟨hg, h⟩ := gV_go h
      refine A_iald dX11_sumOf_42 ia77 hg ?_
      refine A_imul dX11_sumOf_43 ?_
      refine A_iload_n dX11_sumOf_44 rfl ?_
      refine A_iadd dX11_sumOf_45 ?_
      obtain ⟨hg, h⟩ := gV_go h
      refine A_iald dX11_sumOf_46 ia75 hg ?_
      refine A_imul dX11_sumOf_47 ?_
      refine A_iadd dX11_sumOf_48 ?_
      refine A_istoren2 dX11_sumOf_49 (by decide) rfl (bI_go h (G := fun z => AT l g RX11 cX11_sumOf 4 (some .int) (rmM 0 0) (PI r Mr) 50 [some (.ref (g.1 11)), some (.int v1), some (.int z), some (.int v3)] [] M) (fun x1 h => ?_))
      refine A_iinc3 (d := 1) dX11_sumOf_50 (by decide) (by decide) rfl ?_
      refine A_goto dX11_sumOf_53 ?_
      exact A_le (lvLe_s (lvLe_s (lvLe_s (lvLe_s lvLe_0)))) (ih4 _ _ _ K4 h hK4)
def f_X11_sumOf (v1 : Int32) (M : Mem) : Option Ret := f_X11_sumOf_L4 v1 FU (0 : Int32) (0 : Int32) M (fun w2 w3 M4 => some (w2, M4))
set_option maxRecDepth 100000 in
theorem ok_X11_sumOf {l : Launch} {g : Cx} {v1 : Int32} {M : Mem} {r : Int32} {Mr : Mem} (h : f_X11_sumOf v1 M = some (r, Mr)) : CT l g yX11_sumOf cX11_sumOf 4 (some .int) 0 0 [.ref (g.1 11), .int v1] M (PI r Mr) := by
  refine CT_of (lv := [some (.ref (g.1 11)), some (.int v1), none, none]) (by decide) rfl (Nat.le_of_ble_eq_true rfl) ?_
  unfold f_X11_sumOf at h
  refine A_iconst (v := 0) dX11_sumOf_0 (by decide) ?_
  refine A_istoren2 dX11_sumOf_1 (by decide) rfl ?_
  refine A_iconst (v := 0) dX11_sumOf_2 (by decide) ?_
  refine A_istoren3 dX11_sumOf_3 (by decide) rfl ?_
  refine f_X11_sumOf_L4_ok _ FU _ _ _ _ h (fun w2 w3 M4 h => ?_)
  refine A_iload_n dX11_sumOf_56 rfl ?_
  exact A_iret dX11_sumOf_57 (pI_go h)
-- BenchTimesModel.make
theorem dX11_make_0 : di cX11_make 0 (.aload_n 0) 1 1 := ⟨by decide +kernel, rfl⟩
theorem dX11_make_1 : di cX11_make 1 (.getfield 51) 3 4 := ⟨by decide +kernel, rfl⟩
theorem dX11_make_4 : di cX11_make 4 (.aload_n 0) 1 5 := ⟨by decide +kernel, rfl⟩
theorem dX11_make_5 : di cX11_make 5 (.getfield 173) 3 8 := ⟨by decide +kernel, rfl⟩
theorem dX11_make_8 : di cX11_make 8 (.iload_n 1) 1 9 := ⟨by decide +kernel, rfl⟩
theorem dX11_make_9 : di cX11_make 9 (.iastore) 1 10 := ⟨by decide +kernel, rfl⟩
theorem dX11_make_10 : di cX11_make 10 (.aload_n 0) 1 11 := ⟨by decide +kernel, rfl⟩
theorem dX11_make_11 : di cX11_make 11 (.getfield 54) 3 14 := ⟨by decide +kernel, rfl⟩
theorem dX11_make_14 : di cX11_make 14 (.aload_n 0) 1 15 := ⟨by decide +kernel, rfl⟩
theorem dX11_make_15 : di cX11_make 15 (.getfield 173) 3 18 := ⟨by decide +kernel, rfl⟩
theorem dX11_make_18 : di cX11_make 18 (.iload_n 2) 1 19 := ⟨by decide +kernel, rfl⟩
theorem dX11_make_19 : di cX11_make 19 (.iastore) 1 20 := ⟨by decide +kernel, rfl⟩
theorem dX11_make_20 : di cX11_make 20 (.iconst 0) 1 21 := ⟨by decide +kernel, rfl⟩
theorem dX11_make_21 : di cX11_make 21 (.istore 4) 2 23 := ⟨by decide +kernel, rfl⟩
theorem dX11_make_23 : di cX11_make 23 (.iload 4) 2 25 := ⟨by decide +kernel, rfl⟩
theorem dX11_make_25 : di cX11_make 25 (.aload_n 0) 1 26 := ⟨by decide +kernel, rfl⟩
theorem dX11_make_26 : di cX11_make 26 (.getfield 38) 3 29 := ⟨by decide +kernel, rfl⟩
theorem dX11_make_29 : di cX11_make 29 (.iload_n 1) 1 30 := ⟨by decide +kernel, rfl⟩
theorem dX11_make_30 : di cX11_make 30 (.iaload) 1 31 := ⟨by decide +kernel, rfl⟩
theorem dX11_make_31 : dj cX11_make 31 (.if_icmp .ge) 34 112 := ⟨81, by decide +kernel, rfl, rfl⟩
theorem dX11_make_34 : di cX11_make 34 (.bipush 6) 2 36 := ⟨by decide +kernel, rfl⟩
theorem dX11_make_36 : di cX11_make 36 (.iload_n 1) 1 37 := ⟨by decide +kernel, rfl⟩
theorem dX11_make_37 : di cX11_make 37 (.imul) 1 38 := ⟨by decide +kernel, rfl⟩
theorem dX11_make_38 : di cX11_make 38 (.iload 4) 2 40 := ⟨by decide +kernel, rfl⟩
theorem dX11_make_40 : di cX11_make 40 (.iadd) 1 41 := ⟨by decide +kernel, rfl⟩
theorem dX11_make_41 : di cX11_make 41 (.istore 5) 2 43 := ⟨by decide +kernel, rfl⟩
theorem dX11_make_43 : di cX11_make 43 (.aload_n 0) 1 44 := ⟨by decide +kernel, rfl⟩
theorem dX11_make_44 : di cX11_make 44 (.getfield 57) 3 47 := ⟨by decide +kernel, rfl⟩
theorem dX11_make_47 : di cX11_make 47 (.bipush 6) 2 49 := ⟨by decide +kernel, rfl⟩
theorem dX11_make_49 : di cX11_make 49 (.aload_n 0) 1 50 := ⟨by decide +kernel, rfl⟩
theorem dX11_make_50 : di cX11_make 50 (.getfield 173) 3 53 := ⟨by decide +kernel, rfl⟩
theorem dX11_make_53 : di cX11_make 53 (.imul) 1 54 := ⟨by decide +kernel, rfl⟩
theorem dX11_make_54 : di cX11_make 54 (.iload 4) 2 56 := ⟨by decide +kernel, rfl⟩
theorem dX11_make_56 : di cX11_make 56 (.iadd) 1 57 := ⟨by decide +kernel, rfl⟩
theorem dX11_make_57 : di cX11_make 57 (.iload_n 3) 1 58 := ⟨by decide +kernel, rfl⟩
theorem dX11_make_58 : dj cX11_make 58 (.ifCond .lt) 61 71 := ⟨13, by decide +kernel, rfl, rfl⟩
theorem dX11_make_61 : di cX11_make 61 (.aload_n 0) 1 62 := ⟨by decide +kernel, rfl⟩
theorem dX11_make_62 : di cX11_make 62 (.getfield 47) 3 65 := ⟨by decide +kernel, rfl⟩
theorem dX11_make_65 : di cX11_make 65 (.iload 5) 2 67 := ⟨by decide +kernel, rfl⟩
theorem dX11_make_67 : di cX11_make 67 (.baload) 1 68 := ⟨by decide +kernel, rfl⟩
theorem dX11_make_68 : dj cX11_make 68 (.ifCond .eq) 71 85 := ⟨17, by decide +kernel, rfl, rfl⟩
theorem dX11_make_71 : di cX11_make 71 (.aload_n 0) 1 72 := ⟨by decide +kernel, rfl⟩
theorem dX11_make_72 : di cX11_make 72 (.aload_n 0) 1 73 := ⟨by decide +kernel, rfl⟩
theorem dX11_make_73 : di cX11_make 73 (.getfield 41) 3 76 := ⟨by decide +kernel, rfl⟩
theorem dX11_make_76 : di cX11_make 76 (.iload 5) 2 78 := ⟨by decide +kernel, rfl⟩
theorem dX11_make_78 : di cX11_make 78 (.iaload) 1 79 := ⟨by decide +kernel, rfl⟩
theorem dX11_make_79 : di cX11_make 79 (.invokevirtual 170) 3 82 := ⟨by decide +kernel, rfl⟩
theorem dX11_make_82 : dj cX11_make 82 .goto 85 97 := ⟨15, by decide +kernel, rfl, rfl⟩
theorem dX11_make_85 : di cX11_make 85 (.aload_n 0) 1 86 := ⟨by decide +kernel, rfl⟩
theorem dX11_make_86 : di cX11_make 86 (.getfield 57) 3 89 := ⟨by decide +kernel, rfl⟩
theorem dX11_make_89 : di cX11_make 89 (.bipush 6) 2 91 := ⟨by decide +kernel, rfl⟩
theorem dX11_make_91 : di cX11_make 91 (.iload_n 3) 1 92 := ⟨by decide +kernel, rfl⟩
theorem dX11_make_92 : di cX11_make 92 (.imul) 1 93 := ⟨by decide +kernel, rfl⟩
theorem dX11_make_93 : di cX11_make 93 (.iload 4) 2 95 := ⟨by decide +kernel, rfl⟩
theorem dX11_make_95 : di cX11_make 95 (.iadd) 1 96 := ⟨by decide +kernel, rfl⟩
theorem dX11_make_96 : di cX11_make 96 (.iaload) 1 97 := ⟨by decide +kernel, rfl⟩
theorem dX11_make_97 : di cX11_make 97 (.iastore) 1 98 := ⟨by decide +kernel, rfl⟩
theorem dX11_make_98 : di cX11_make 98 (.aload_n 0) 1 99 := ⟨by decide +kernel, rfl⟩
theorem dX11_make_99 : di cX11_make 99 (.getfield 47) 3 102 := ⟨by decide +kernel, rfl⟩
theorem dX11_make_102 : di cX11_make 102 (.iload 5) 2 104 := ⟨by decide +kernel, rfl⟩
theorem dX11_make_104 : di cX11_make 104 (.iconst 0) 1 105 := ⟨by decide +kernel, rfl⟩
theorem dX11_make_105 : di cX11_make 105 (.bastore) 1 106 := ⟨by decide +kernel, rfl⟩
theorem dX11_make_106 : di cX11_make 106 (.iinc 4 1) 3 109 := ⟨by decide +kernel, rfl⟩
theorem dX11_make_109 : dj cX11_make 109 .goto 112 23 := ⟨-86, by decide +kernel, rfl, rfl⟩
theorem dX11_make_112 : di cX11_make 112 (.aload_n 0) 1 113 := ⟨by decide +kernel, rfl⟩
theorem dX11_make_113 : di cX11_make 113 (.dup) 1 114 := ⟨by decide +kernel, rfl⟩
theorem dX11_make_114 : di cX11_make 114 (.getfield 173) 3 117 := ⟨by decide +kernel, rfl⟩
theorem dX11_make_117 : di cX11_make 117 (.iconst 1) 1 118 := ⟨by decide +kernel, rfl⟩
theorem dX11_make_118 : di cX11_make 118 (.iadd) 1 119 := ⟨by decide +kernel, rfl⟩
theorem dX11_make_119 : di cX11_make 119 (.putfield 173) 3 122 := ⟨by decide +kernel, rfl⟩
theorem dX11_make_122 : di cX11_make 122 (.aload_n 0) 1 123 := ⟨by decide +kernel, rfl⟩
theorem dX11_make_123 : di cX11_make 123 (.aload_n 0) 1 124 := ⟨by decide +kernel, rfl⟩
theorem dX11_make_124 : di cX11_make 124 (.getfield 173) 3 127 := ⟨by decide +kernel, rfl⟩
theorem dX11_make_127 : di cX11_make 127 (.iconst 1) 1 128 := ⟨by decide +kernel, rfl⟩
theorem dX11_make_128 : di cX11_make 128 (.isub) 1 129 := ⟨by decide +kernel, rfl⟩
theorem dX11_make_129 : di cX11_make 129 (.invokevirtual 182) 3 132 := ⟨by decide +kernel, rfl⟩
theorem dX11_make_132 : di cX11_make 132 (.ireturn) 1 133 := ⟨by decide +kernel, rfl⟩
def f_X11_make_L23 (v1 : Int32) (v2 : Int32) (v3 : Int32) : Nat → Int32 → Mem → (Int32 → Mem → Option Ret) → Option Ret
  | 0, _, _, _ => none
  | k23 + 1, v4, M, K23 => gV v1 8 (if (M.1 73 v1.toNatClampNeg) ≤ v4 then (K23 v4 M) else (bI (((6 : Int32) * v1) + v4) (fun x3 => jn (α := Int32 → Mem → Option Ret) (fun (z5 : Int32) (M6 : Mem) => gV (((6 : Int32) * (M.1 11 17)) + v4) 240 (bM (up2 M6 79 (((6 : Int32) * (M.1 11 17)) + v4).toNatClampNeg z5) (fun M7 => gV x3 48 (bM (up2 M7 76 x3.toNatClampNeg ((0 : Int32) &&& 1)) (fun M8 => f_X11_make_L23 v1 v2 v3 k23 (v4 + (1 : Int32)) M8 K23))))) (fun J4 => if v3 < 0 then (gV x3 48 (bE (f_X11_standardOf (M.1 74 x3.toNatClampNeg) M) (fun r10 M9 => J4 r10 M9))) else (gV x3 48 (if (M.1 76 x3.toNatClampNeg) = 0 then (gV (((6 : Int32) * v3) + v4) 240 (J4 (M.1 79 (((6 : Int32) * v3) + v4).toNatClampNeg) M)) else (gV x3 48 (bE (f_X11_standardOf (M.1 74 x3.toNatClampNeg) M) (fun r12 M11 => J4 r12 M11)))))))))
set_option maxRecDepth 100000 in
theorem f_X11_make_L23_ok {l : Launch} {g : Cx} (v1 : Int32) (v2 : Int32) (v3 : Int32)  {r : Int32} {Mr : Mem} : ∀ (k : Nat) (v4 : Int32) (M : Mem) (K23 : Int32 → Mem → Option Ret), f_X11_make_L23 v1 v2 v3 k v4 M K23 = some (r, Mr) → (∀ (v4 : Int32) (M : Mem), K23 v4 M = some (r, Mr) → AT l g RX11 cX11_make 6 (some .int) (rmM 4 98) (PI r Mr) 112 [some (.ref (g.1 11)), some (.int v1), some (.int v2), some (.int v3), some (.int v4), none] [] M) → AT l g RX11 cX11_make 6 (some .int) (rmM 4 98) (PI r Mr) 23 [some (.ref (g.1 11)), some (.int v1), some (.int v2), some (.int v3), some (.int v4), none] [] M
  | 0, v4, M, K23, h, hK23 => by cases h
  | k23 + 1, v4, M, K23, h, hK23 => by
    have ih23 := f_X11_make_L23_ok (l := l) (g := g) v1 v2 v3 (r := r) (Mr := Mr) k23
    rw [f_X11_make_L23] at h
    refine A_iload dX11_make_23 rfl ?_
    refine A_aload_n dX11_make_25 rfl ?_
    refine A_getf dX11_make_26 fw_X11_38 ob11 rfl ?_
    refine A_iload_n dX11_make_29 rfl ?_
    obtain ⟨hg, h⟩ := gV_go h
    refine A_iald dX11_make_30 ia73 hg ?_
    refine A_icmp_ge dX11_make_31 (fun hc => ?_) (fun hc => ?_)
    · have h := gT_go hc h
      exact A_le (lvLe_s (lvLe_s (lvLe_s (lvLe_s (lvLe_s (lvLe_n lvLe_0)))))) (hK23 _ _ h)
    · have h := gF_go hc h
      refine A_bipush (v := 6) dX11_make_34 (by decide) ?_
      refine A_iload_n dX11_make_36 rfl ?_
      refine A_imul dX11_make_37 ?_
      refine A_iload dX11_make_38 rfl ?_
      refine A_iadd dX11_make_40 ?_
      refine A_istore5 dX11_make_41 (by decide) rfl (bI_go h (G := fun z => AT l g RX11 cX11_make 6 (some .int) (rmM 4 98) (PI r Mr) 43 [some (.ref (g.1 11)), some (.int v1), some (.int v2), some (.int v3), some (.int v4), some (.int z)] [] M) (fun x3 h => ?_))
      refine A_aload_n dX11_make_43 rfl ?_
      refine A_getf dX11_make_44 fw_X11_57 ob11 rfl ?_
      refine A_bipush (v := 6) dX11_make_47 (by decide) ?_
      refine A_aload_n dX11_make_49 rfl ?_
      refine A_getf dX11_make_50 fw_X11_173 ob11 rfl ?_
      refine A_imul dX11_make_53 ?_
      refine A_iload dX11_make_54 rfl ?_
      refine A_iadd dX11_make_56 ?_
      refine A_iload_n dX11_make_57 rfl ?_
      obtain ⟨J4, hJ4, h⟩ := jn_go h
      have JJ4 : ∀ (z5 : Int32) (M6 : Mem), J4 z5 M6 = some (r, Mr) → AT l g RX11 cX11_make 6 (some .int) (rmM 4 98) (PI r Mr) 97 [some (.ref (g.1 11)), some (.int v1), some (.int v2), some (.int v3), some (.int v4), some (.int x3)] [.int z5, .int (((6 : Int32) * (M.1 11 17)) + v4), .ref (g.1 79)] M6 := by
        intro z5 M6 h
        rw [hJ4] at h
        obtain ⟨hg, h⟩ := gV_go h
        refine A_iast dX11_make_97 ia79 hg (bM_go h (fun M7 h => ?_))
        refine A_aload_n dX11_make_98 rfl ?_
        refine A_getf dX11_make_99 fw_X11_47 ob11 rfl ?_
        refine A_iload dX11_make_102 rfl ?_
        refine A_iconst (v := 0) dX11_make_104 (by decide) ?_
        obtain ⟨hg, h⟩ := gV_go h
        refine A_zast dX11_make_105 za76 hg (bM_go h (fun M8 h => ?_))
        refine A_iinc4 (d := 1) dX11_make_106 (by decide) (by decide) rfl ?_
        refine A_goto dX11_make_109 ?_
        exact A_le (lvLe_s (lvLe_s (lvLe_s (lvLe_s (lvLe_s (lvLe_n lvLe_0)))))) (ih23 _ _ K23 h hK23)
      refine A_if_lt dX11_make_58 (fun hc => ?_) (fun hc => ?_)
      · have h := gT_go hc h
        refine A_aload_n dX11_make_71 rfl ?_
        refine A_aload_n dX11_make_72 rfl ?_
        refine A_getf dX11_make_73 fw_X11_41 ob11 rfl ?_
        refine A_iload dX11_make_76 rfl ?_
        obtain ⟨hg, h⟩ := gV_go h
        refine A_iald dX11_make_78 ia74 hg ?_
        obtain ⟨r10, M9, h1, h⟩ := bE_go h
        refine A_cVi1 dX11_make_79 ml_X11_170 mb_X11_standardOf mi_X11_standardOf ob11 rfl rfl ⟨Nat.le_of_ble_eq_true rfl, Nat.le_of_ble_eq_true rfl⟩ (Nat.le_of_ble_eq_true rfl) (ok_X11_standardOf h1) ?_
        refine A_goto dX11_make_82 ?_
        exact A_le (lvLe_s (lvLe_s (lvLe_s (lvLe_s (lvLe_s (lvLe_s lvLe_0)))))) (JJ4 _ _ h)
      · have h := gF_go hc h
        refine A_aload_n dX11_make_61 rfl ?_
        refine A_getf dX11_make_62 fw_X11_47 ob11 rfl ?_
        refine A_iload dX11_make_65 rfl ?_
        obtain ⟨hg, h⟩ := gV_go h
        refine A_zald dX11_make_67 za76 hg ?_
        refine A_if_eq dX11_make_68 (fun hc => ?_) (fun hc => ?_)
        · have h := gT_go hc h
          refine A_aload_n dX11_make_85 rfl ?_
          refine A_getf dX11_make_86 fw_X11_57 ob11 rfl ?_
          refine A_bipush (v := 6) dX11_make_89 (by decide) ?_
          refine A_iload_n dX11_make_91 rfl ?_
          refine A_imul dX11_make_92 ?_
          refine A_iload dX11_make_93 rfl ?_
          refine A_iadd dX11_make_95 ?_
          obtain ⟨hg, h⟩ := gV_go h
          refine A_iald dX11_make_96 ia79 hg ?_
          exact A_le (lvLe_s (lvLe_s (lvLe_s (lvLe_s (lvLe_s (lvLe_s lvLe_0)))))) (JJ4 _ _ h)
        · have h := gF_go hc h
          refine A_aload_n dX11_make_71 rfl ?_
          refine A_aload_n dX11_make_72 rfl ?_
          refine A_getf dX11_make_73 fw_X11_41 ob11 rfl ?_
          refine A_iload dX11_make_76 rfl ?_
          obtain ⟨hg, h⟩ := gV_go h
          refine A_iald dX11_make_78 ia74 hg ?_
          obtain ⟨r12, M11, h1, h⟩ := bE_go h
          refine A_cVi1 dX11_make_79 ml_X11_170 mb_X11_standardOf mi_X11_standardOf ob11 rfl rfl ⟨Nat.le_of_ble_eq_true rfl, Nat.le_of_ble_eq_true rfl⟩ (Nat.le_of_ble_eq_true rfl) (ok_X11_standardOf h1) ?_
          refine A_goto dX11_make_82 ?_
          exact A_le (lvLe_s (lvLe_s (lvLe_s (lvLe_s (lvLe_s (lvLe_s lvLe_0)))))) (JJ4 _ _ h)
def f_X11_make (v1 : Int32) (v2 : Int32) (v3 : Int32) (M : Mem) : Option Ret := gV (M.1 11 17) 40 (bM (up2 M 77 (M.1 11 17).toNatClampNeg v1) (fun M1 => gV (M1.1 11 17) 40 (bM (up2 M1 78 (M1.1 11 17).toNatClampNeg v2) (fun M2 => f_X11_make_L23 v1 v2 v3 FU (0 : Int32) M2 (fun w13 M14 => bM (up2 M14 11 17 ((M14.1 11 17) + (1 : Int32))) (fun M15 => bE (f_X11_sumOf ((M15.1 11 17) - (1 : Int32)) M15) (fun r17 M16 => some (r17, M16))))))))
set_option maxRecDepth 100000 in
theorem ok_X11_make {l : Launch} {g : Cx} {v1 : Int32} {v2 : Int32} {v3 : Int32} {M : Mem} {r : Int32} {Mr : Mem} (h : f_X11_make v1 v2 v3 M = some (r, Mr)) : CT l g yX11_make cX11_make 6 (some .int) 4 98 [.ref (g.1 11), .int v1, .int v2, .int v3] M (PI r Mr) := by
  refine CT_of (lv := [some (.ref (g.1 11)), some (.int v1), some (.int v2), some (.int v3), none, none]) (by decide) rfl (Nat.le_of_ble_eq_true rfl) ?_
  unfold f_X11_make at h
  refine A_aload_n dX11_make_0 rfl ?_
  refine A_getf dX11_make_1 fw_X11_51 ob11 rfl ?_
  refine A_aload_n dX11_make_4 rfl ?_
  refine A_getf dX11_make_5 fw_X11_173 ob11 rfl ?_
  refine A_iload_n dX11_make_8 rfl ?_
  obtain ⟨hg, h⟩ := gV_go h
  refine A_iast dX11_make_9 ia77 hg (bM_go h (fun M1 h => ?_))
  refine A_aload_n dX11_make_10 rfl ?_
  refine A_getf dX11_make_11 fw_X11_54 ob11 rfl ?_
  refine A_aload_n dX11_make_14 rfl ?_
  refine A_getf dX11_make_15 fw_X11_173 ob11 rfl ?_
  refine A_iload_n dX11_make_18 rfl ?_
  obtain ⟨hg, h⟩ := gV_go h
  refine A_iast dX11_make_19 ia78 hg (bM_go h (fun M2 h => ?_))
  refine A_iconst (v := 0) dX11_make_20 (by decide) ?_
  refine A_istore4 dX11_make_21 (by decide) rfl ?_
  refine f_X11_make_L23_ok _ _ _ FU _ _ _ h (fun w13 M14 h => ?_)
  refine A_aload_n dX11_make_112 rfl ?_
  refine A_dup dX11_make_113 rfl ?_
  refine A_getf dX11_make_114 fw_X11_173 ob11 rfl ?_
  refine A_iconst (v := 1) dX11_make_117 (by decide) ?_
  refine A_iadd dX11_make_118 ?_
  refine A_putf dX11_make_119 pw_X11_173 ob11 pf11_17 (Nat.le_of_ble_eq_true rfl) (bM_go h (fun M15 h => ?_))
  refine A_aload_n dX11_make_122 rfl ?_
  refine A_aload_n dX11_make_123 rfl ?_
  refine A_getf dX11_make_124 fw_X11_173 ob11 rfl ?_
  refine A_iconst (v := 1) dX11_make_127 (by decide) ?_
  refine A_isub dX11_make_128 ?_
  obtain ⟨r17, M16, h1, h⟩ := bE_go h
  refine A_cVi1 dX11_make_129 ml_X11_182 mb_X11_sumOf mi_X11_sumOf ob11 rfl rfl ⟨Nat.le_of_ble_eq_true rfl, Nat.le_of_ble_eq_true rfl⟩ (Nat.le_of_ble_eq_true rfl) (ok_X11_sumOf h1) ?_
  exact A_iret dX11_make_132 (pI_go h)
-- BenchTimesModel.set
theorem dX11_set_0 : di cX11_set 0 (.aload_n 0) 1 1 := ⟨by decide +kernel, rfl⟩
theorem dX11_set_1 : di cX11_set 1 (.iload_n 1) 1 2 := ⟨by decide +kernel, rfl⟩
theorem dX11_set_2 : di cX11_set 2 (.invokevirtual 176) 3 5 := ⟨by decide +kernel, rfl⟩
theorem dX11_set_5 : dj cX11_set 5 (.ifCond .ne) 8 14 := ⟨9, by decide +kernel, rfl, rfl⟩
theorem dX11_set_8 : di cX11_set 8 (.aload_n 0) 1 9 := ⟨by decide +kernel, rfl⟩
theorem dX11_set_9 : di cX11_set 9 (.iconst 1) 1 10 := ⟨by decide +kernel, rfl⟩
theorem dX11_set_10 : di cX11_set 10 (.invokevirtual 137) 3 13 := ⟨by decide +kernel, rfl⟩
theorem dX11_set_13 : di cX11_set 13 (.ireturn) 1 14 := ⟨by decide +kernel, rfl⟩
theorem dX11_set_14 : di cX11_set 14 (.aload_n 0) 1 15 := ⟨by decide +kernel, rfl⟩
theorem dX11_set_15 : di cX11_set 15 (.iload_n 1) 1 16 := ⟨by decide +kernel, rfl⟩
theorem dX11_set_16 : di cX11_set 16 (.invokevirtual 179) 3 19 := ⟨by decide +kernel, rfl⟩
theorem dX11_set_19 : dj cX11_set 19 (.ifCond .ge) 22 31 := ⟨12, by decide +kernel, rfl, rfl⟩
theorem dX11_set_22 : di cX11_set 22 (.aload_n 0) 1 23 := ⟨by decide +kernel, rfl⟩
theorem dX11_set_23 : di cX11_set 23 (.getfield 38) 3 26 := ⟨by decide +kernel, rfl⟩
theorem dX11_set_26 : di cX11_set 26 (.iload_n 1) 1 27 := ⟨by decide +kernel, rfl⟩
theorem dX11_set_27 : di cX11_set 27 (.iaload) 1 28 := ⟨by decide +kernel, rfl⟩
theorem dX11_set_28 : dj cX11_set 28 (.ifCond .ne) 31 37 := ⟨9, by decide +kernel, rfl, rfl⟩
theorem dX11_set_31 : di cX11_set 31 (.aload_n 0) 1 32 := ⟨by decide +kernel, rfl⟩
theorem dX11_set_32 : di cX11_set 32 (.iconst 3) 1 33 := ⟨by decide +kernel, rfl⟩
theorem dX11_set_33 : di cX11_set 33 (.invokevirtual 137) 3 36 := ⟨by decide +kernel, rfl⟩
theorem dX11_set_36 : di cX11_set 36 (.ireturn) 1 37 := ⟨by decide +kernel, rfl⟩
theorem dX11_set_37 : di cX11_set 37 (.iconst 0) 1 38 := ⟨by decide +kernel, rfl⟩
theorem dX11_set_38 : di cX11_set 38 (.istore_n 2) 1 39 := ⟨by decide +kernel, rfl⟩
theorem dX11_set_39 : di cX11_set 39 (.iload_n 2) 1 40 := ⟨by decide +kernel, rfl⟩
theorem dX11_set_40 : di cX11_set 40 (.aload_n 0) 1 41 := ⟨by decide +kernel, rfl⟩
theorem dX11_set_41 : di cX11_set 41 (.getfield 38) 3 44 := ⟨by decide +kernel, rfl⟩
theorem dX11_set_44 : di cX11_set 44 (.iload_n 1) 1 45 := ⟨by decide +kernel, rfl⟩
theorem dX11_set_45 : di cX11_set 45 (.iaload) 1 46 := ⟨by decide +kernel, rfl⟩
theorem dX11_set_46 : dj cX11_set 46 (.if_icmp .ge) 49 79 := ⟨33, by decide +kernel, rfl, rfl⟩
theorem dX11_set_49 : di cX11_set 49 (.aload_n 0) 1 50 := ⟨by decide +kernel, rfl⟩
theorem dX11_set_50 : di cX11_set 50 (.aload_n 0) 1 51 := ⟨by decide +kernel, rfl⟩
theorem dX11_set_51 : di cX11_set 51 (.getfield 41) 3 54 := ⟨by decide +kernel, rfl⟩
theorem dX11_set_54 : di cX11_set 54 (.bipush 6) 2 56 := ⟨by decide +kernel, rfl⟩
theorem dX11_set_56 : di cX11_set 56 (.iload_n 1) 1 57 := ⟨by decide +kernel, rfl⟩
theorem dX11_set_57 : di cX11_set 57 (.imul) 1 58 := ⟨by decide +kernel, rfl⟩
theorem dX11_set_58 : di cX11_set 58 (.iload_n 2) 1 59 := ⟨by decide +kernel, rfl⟩
theorem dX11_set_59 : di cX11_set 59 (.iadd) 1 60 := ⟨by decide +kernel, rfl⟩
theorem dX11_set_60 : di cX11_set 60 (.iaload) 1 61 := ⟨by decide +kernel, rfl⟩
theorem dX11_set_61 : di cX11_set 61 (.invokevirtual 167) 3 64 := ⟨by decide +kernel, rfl⟩
theorem dX11_set_64 : dj cX11_set 64 (.ifCond .ne) 67 73 := ⟨9, by decide +kernel, rfl, rfl⟩
theorem dX11_set_67 : di cX11_set 67 (.aload_n 0) 1 68 := ⟨by decide +kernel, rfl⟩
theorem dX11_set_68 : di cX11_set 68 (.iconst 2) 1 69 := ⟨by decide +kernel, rfl⟩
theorem dX11_set_69 : di cX11_set 69 (.invokevirtual 137) 3 72 := ⟨by decide +kernel, rfl⟩
theorem dX11_set_72 : di cX11_set 72 (.ireturn) 1 73 := ⟨by decide +kernel, rfl⟩
theorem dX11_set_73 : di cX11_set 73 (.iinc 2 1) 3 76 := ⟨by decide +kernel, rfl⟩
theorem dX11_set_76 : dj cX11_set 76 .goto 79 39 := ⟨-37, by decide +kernel, rfl, rfl⟩
theorem dX11_set_79 : di cX11_set 79 (.aload_n 0) 1 80 := ⟨by decide +kernel, rfl⟩
theorem dX11_set_80 : di cX11_set 80 (.getfield 173) 3 83 := ⟨by decide +kernel, rfl⟩
theorem dX11_set_83 : di cX11_set 83 (.bipush 40) 2 85 := ⟨by decide +kernel, rfl⟩
theorem dX11_set_85 : dj cX11_set 85 (.if_icmp .ne) 88 94 := ⟨9, by decide +kernel, rfl, rfl⟩
theorem dX11_set_88 : di cX11_set 88 (.aload_n 0) 1 89 := ⟨by decide +kernel, rfl⟩
theorem dX11_set_89 : di cX11_set 89 (.iconst 4) 1 90 := ⟨by decide +kernel, rfl⟩
theorem dX11_set_90 : di cX11_set 90 (.invokevirtual 137) 3 93 := ⟨by decide +kernel, rfl⟩
theorem dX11_set_93 : di cX11_set 93 (.ireturn) 1 94 := ⟨by decide +kernel, rfl⟩
theorem dX11_set_94 : di cX11_set 94 (.aload_n 0) 1 95 := ⟨by decide +kernel, rfl⟩
theorem dX11_set_95 : di cX11_set 95 (.iload_n 1) 1 96 := ⟨by decide +kernel, rfl⟩
theorem dX11_set_96 : di cX11_set 96 (.aload_n 0) 1 97 := ⟨by decide +kernel, rfl⟩
theorem dX11_set_97 : di cX11_set 97 (.getfield 185) 3 100 := ⟨by decide +kernel, rfl⟩
theorem dX11_set_100 : di cX11_set 100 (.iconst (-1)) 1 101 := ⟨by decide +kernel, rfl⟩
theorem dX11_set_101 : di cX11_set 101 (.invokevirtual 188) 3 104 := ⟨by decide +kernel, rfl⟩
theorem dX11_set_104 : di cX11_set 104 (.ireturn) 1 105 := ⟨by decide +kernel, rfl⟩
def f_X11_set_L39 (v1 : Int32) : Nat → Int32 → Mem → (Int32 → Mem → Option Ret) → Option Ret
  | 0, _, _, _ => none
  | k39 + 1, v2, M, K39 => gV v1 8 (if (M.1 73 v1.toNatClampNeg) ≤ v2 then (K39 v2 M) else (gV (((6 : Int32) * v1) + v2) 48 (bE (f_X11_cyclesOf (M.1 74 (((6 : Int32) * v1) + v2).toNatClampNeg) M) (fun r8 M7 => if r8 = 0 then (bE (f_X11_finding (2 : Int32) M7) (fun r10 M9 => some (r10, M9))) else (f_X11_set_L39 v1 k39 (v2 + (1 : Int32)) M7 K39)))))
set_option maxRecDepth 100000 in
theorem f_X11_set_L39_ok {l : Launch} {g : Cx} (v1 : Int32)  {r : Int32} {Mr : Mem} : ∀ (k : Nat) (v2 : Int32) (M : Mem) (K39 : Int32 → Mem → Option Ret), f_X11_set_L39 v1 k v2 M K39 = some (r, Mr) → (∀ (v2 : Int32) (M : Mem), K39 v2 M = some (r, Mr) → AT l g RX11 cX11_set 3 (some .int) (rmM 5 123) (PI r Mr) 79 [some (.ref (g.1 11)), some (.int v1), some (.int v2)] [] M) → AT l g RX11 cX11_set 3 (some .int) (rmM 5 123) (PI r Mr) 39 [some (.ref (g.1 11)), some (.int v1), some (.int v2)] [] M
  | 0, v2, M, K39, h, hK39 => by cases h
  | k39 + 1, v2, M, K39, h, hK39 => by
    have ih39 := f_X11_set_L39_ok (l := l) (g := g) v1 (r := r) (Mr := Mr) k39
    rw [f_X11_set_L39] at h
    refine A_iload_n dX11_set_39 rfl ?_
    refine A_aload_n dX11_set_40 rfl ?_
    refine A_getf dX11_set_41 fw_X11_38 ob11 rfl ?_
    refine A_iload_n dX11_set_44 rfl ?_
    obtain ⟨hg, h⟩ := gV_go h
    refine A_iald dX11_set_45 ia73 hg ?_
    refine A_icmp_ge dX11_set_46 (fun hc => ?_) (fun hc => ?_)
    · have h := gT_go hc h
      exact A_le (lvLe_s (lvLe_s (lvLe_s lvLe_0))) (hK39 _ _ h)
    · have h := gF_go hc h
      refine A_aload_n dX11_set_49 rfl ?_
      refine A_aload_n dX11_set_50 rfl ?_
      refine A_getf dX11_set_51 fw_X11_41 ob11 rfl ?_
      refine A_bipush (v := 6) dX11_set_54 (by decide) ?_
      refine A_iload_n dX11_set_56 rfl ?_
      refine A_imul dX11_set_57 ?_
      refine A_iload_n dX11_set_58 rfl ?_
      refine A_iadd dX11_set_59 ?_
      obtain ⟨hg, h⟩ := gV_go h
      refine A_iald dX11_set_60 ia74 hg ?_
      obtain ⟨r8, M7, h1, h⟩ := bE_go h
      refine A_cVi1 dX11_set_61 ml_X11_167 mb_X11_cyclesOf mi_X11_cyclesOf ob11 rfl rfl ⟨Nat.le_of_ble_eq_true rfl, Nat.le_of_ble_eq_true rfl⟩ (Nat.le_of_ble_eq_true rfl) (ok_X11_cyclesOf h1) ?_
      refine A_if_ne dX11_set_64 (fun hc => ?_) (fun hc => ?_)
      · have h := gF_go hc h
        refine A_iinc2 (d := 1) dX11_set_73 (by decide) (by decide) rfl ?_
        refine A_goto dX11_set_76 ?_
        exact A_le (lvLe_s (lvLe_s (lvLe_s lvLe_0))) (ih39 _ _ K39 h hK39)
      · have h := gT_go hc h
        refine A_aload_n dX11_set_67 rfl ?_
        refine A_iconst (v := 2) dX11_set_68 (by decide) ?_
        obtain ⟨r10, M9, h1, h⟩ := bE_go h
        refine A_cVi1 dX11_set_69 ml_X11_137 mb_X11_finding mi_X11_finding ob11 rfl rfl ⟨Nat.le_of_ble_eq_true rfl, Nat.le_of_ble_eq_true rfl⟩ (Nat.le_of_ble_eq_true rfl) (ok_X11_finding h1) ?_
        exact A_iret dX11_set_72 (pI_go h)
def f_X11_set (v1 : Int32) (M : Mem) : Option Ret := bE (f_X11_isJob v1 M) (fun r2 M1 => if r2 = 0 then (bE (f_X11_finding (1 : Int32) M1) (fun r20 M19 => some (r20, M19))) else (bE (f_X11_latestOf v1 M1) (fun r4 M3 => if 0 ≤ r4 then (bE (f_X11_finding (3 : Int32) M3) (fun r6 M5 => some (r6, M5))) else (gV v1 8 (if (M3.1 73 v1.toNatClampNeg) = 0 then (bE (f_X11_finding (3 : Int32) M3) (fun r18 M17 => some (r18, M17))) else (f_X11_set_L39 v1 FU (0 : Int32) M3 (fun w11 M12 => if (M12.1 11 17) = (40 : Int32) then (bE (f_X11_finding (4 : Int32) M12) (fun r16 M15 => some (r16, M15))) else (bE (f_X11_make v1 (M12.1 11 21) (-1 : Int32) M12) (fun r14 M13 => some (r14, M13))))))))))
set_option maxRecDepth 100000 in
theorem ok_X11_set {l : Launch} {g : Cx} {v1 : Int32} {M : Mem} {r : Int32} {Mr : Mem} (h : f_X11_set v1 M = some (r, Mr)) : CT l g yX11_set cX11_set 3 (some .int) 5 123 [.ref (g.1 11), .int v1] M (PI r Mr) := by
  refine CT_of (lv := [some (.ref (g.1 11)), some (.int v1), none]) (by decide) rfl (Nat.le_of_ble_eq_true rfl) ?_
  unfold f_X11_set at h
  refine A_aload_n dX11_set_0 rfl ?_
  refine A_iload_n dX11_set_1 rfl ?_
  obtain ⟨r2, M1, h1, h⟩ := bE_go h
  refine A_cVi1 dX11_set_2 ml_X11_176 mb_X11_isJob mi_X11_isJob ob11 rfl rfl ⟨Nat.le_of_ble_eq_true rfl, Nat.le_of_ble_eq_true rfl⟩ (Nat.le_of_ble_eq_true rfl) (ok_X11_isJob h1) ?_
  refine A_if_ne dX11_set_5 (fun hc => ?_) (fun hc => ?_)
  · have h := gF_go hc h
    refine A_aload_n dX11_set_14 rfl ?_
    refine A_iload_n dX11_set_15 rfl ?_
    obtain ⟨r4, M3, h1, h⟩ := bE_go h
    refine A_cVi1 dX11_set_16 ml_X11_179 mb_X11_latestOf mi_X11_latestOf ob11 rfl rfl ⟨Nat.le_of_ble_eq_true rfl, Nat.le_of_ble_eq_true rfl⟩ (Nat.le_of_ble_eq_true rfl) (ok_X11_latestOf h1) ?_
    refine A_if_ge dX11_set_19 (fun hc => ?_) (fun hc => ?_)
    · have h := gT_go hc h
      refine A_aload_n dX11_set_31 rfl ?_
      refine A_iconst (v := 3) dX11_set_32 (by decide) ?_
      obtain ⟨r6, M5, h1, h⟩ := bE_go h
      refine A_cVi1 dX11_set_33 ml_X11_137 mb_X11_finding mi_X11_finding ob11 rfl rfl ⟨Nat.le_of_ble_eq_true rfl, Nat.le_of_ble_eq_true rfl⟩ (Nat.le_of_ble_eq_true rfl) (ok_X11_finding h1) ?_
      exact A_iret dX11_set_36 (pI_go h)
    · have h := gF_go hc h
      refine A_aload_n dX11_set_22 rfl ?_
      refine A_getf dX11_set_23 fw_X11_38 ob11 rfl ?_
      refine A_iload_n dX11_set_26 rfl ?_
      obtain ⟨hg, h⟩ := gV_go h
      refine A_iald dX11_set_27 ia73 hg ?_
      refine A_if_ne dX11_set_28 (fun hc => ?_) (fun hc => ?_)
      · have h := gF_go hc h
        refine A_iconst (v := 0) dX11_set_37 (by decide) ?_
        refine A_istoren2 dX11_set_38 (by decide) rfl ?_
        refine f_X11_set_L39_ok _ FU _ _ _ h (fun w11 M12 h => ?_)
        refine A_aload_n dX11_set_79 rfl ?_
        refine A_getf dX11_set_80 fw_X11_173 ob11 rfl ?_
        refine A_bipush (v := 40) dX11_set_83 (by decide) ?_
        refine A_icmp_ne dX11_set_85 (fun hc => ?_) (fun hc => ?_)
        · have h := gF_go hc h
          refine A_aload_n dX11_set_94 rfl ?_
          refine A_iload_n dX11_set_95 rfl ?_
          refine A_aload_n dX11_set_96 rfl ?_
          refine A_getf dX11_set_97 fw_X11_185 ob11 rfl ?_
          refine A_iconst (v := -1) dX11_set_100 (by decide) ?_
          obtain ⟨r14, M13, h1, h⟩ := bE_go h
          refine A_cVi3 dX11_set_101 ml_X11_188 mb_X11_make mi_X11_make ob11 rfl rfl ⟨Nat.le_of_ble_eq_true rfl, Nat.le_of_ble_eq_true rfl⟩ (Nat.le_of_ble_eq_true rfl) (ok_X11_make h1) ?_
          exact A_iret dX11_set_104 (pI_go h)
        · have h := gT_go hc h
          refine A_aload_n dX11_set_88 rfl ?_
          refine A_iconst (v := 4) dX11_set_89 (by decide) ?_
          obtain ⟨r16, M15, h1, h⟩ := bE_go h
          refine A_cVi1 dX11_set_90 ml_X11_137 mb_X11_finding mi_X11_finding ob11 rfl rfl ⟨Nat.le_of_ble_eq_true rfl, Nat.le_of_ble_eq_true rfl⟩ (Nat.le_of_ble_eq_true rfl) (ok_X11_finding h1) ?_
          exact A_iret dX11_set_93 (pI_go h)
      · have h := gT_go hc h
        refine A_aload_n dX11_set_31 rfl ?_
        refine A_iconst (v := 3) dX11_set_32 (by decide) ?_
        obtain ⟨r18, M17, h1, h⟩ := bE_go h
        refine A_cVi1 dX11_set_33 ml_X11_137 mb_X11_finding mi_X11_finding ob11 rfl rfl ⟨Nat.le_of_ble_eq_true rfl, Nat.le_of_ble_eq_true rfl⟩ (Nat.le_of_ble_eq_true rfl) (ok_X11_finding h1) ?_
        exact A_iret dX11_set_36 (pI_go h)
  · have h := gT_go hc h
    refine A_aload_n dX11_set_8 rfl ?_
    refine A_iconst (v := 1) dX11_set_9 (by decide) ?_
    obtain ⟨r20, M19, h1, h⟩ := bE_go h
    refine A_cVi1 dX11_set_10 ml_X11_137 mb_X11_finding mi_X11_finding ob11 rfl rfl ⟨Nat.le_of_ble_eq_true rfl, Nat.le_of_ble_eq_true rfl⟩ (Nat.le_of_ble_eq_true rfl) (ok_X11_finding h1) ?_
    exact A_iret dX11_set_13 (pI_go h)
-- BenchTimesModel.change
theorem dX11_change_0 : di cX11_change 0 (.aload_n 0) 1 1 := ⟨by decide +kernel, rfl⟩
theorem dX11_change_1 : di cX11_change 1 (.iload_n 1) 1 2 := ⟨by decide +kernel, rfl⟩
theorem dX11_change_2 : di cX11_change 2 (.invokevirtual 141) 3 5 := ⟨by decide +kernel, rfl⟩
theorem dX11_change_5 : dj cX11_change 5 (.ifCond .ne) 8 14 := ⟨9, by decide +kernel, rfl, rfl⟩
theorem dX11_change_8 : di cX11_change 8 (.aload_n 0) 1 9 := ⟨by decide +kernel, rfl⟩
theorem dX11_change_9 : di cX11_change 9 (.iconst 1) 1 10 := ⟨by decide +kernel, rfl⟩
theorem dX11_change_10 : di cX11_change 10 (.invokevirtual 137) 3 13 := ⟨by decide +kernel, rfl⟩
theorem dX11_change_13 : di cX11_change 13 (.ireturn) 1 14 := ⟨by decide +kernel, rfl⟩
theorem dX11_change_14 : di cX11_change 14 (.iconst 0) 1 15 := ⟨by decide +kernel, rfl⟩
theorem dX11_change_15 : di cX11_change 15 (.istore_n 2) 1 16 := ⟨by decide +kernel, rfl⟩
theorem dX11_change_16 : di cX11_change 16 (.iconst 0) 1 17 := ⟨by decide +kernel, rfl⟩
theorem dX11_change_17 : di cX11_change 17 (.istore_n 3) 1 18 := ⟨by decide +kernel, rfl⟩
theorem dX11_change_18 : di cX11_change 18 (.iload_n 3) 1 19 := ⟨by decide +kernel, rfl⟩
theorem dX11_change_19 : di cX11_change 19 (.aload_n 0) 1 20 := ⟨by decide +kernel, rfl⟩
theorem dX11_change_20 : di cX11_change 20 (.getfield 130) 3 23 := ⟨by decide +kernel, rfl⟩
theorem dX11_change_23 : dj cX11_change 23 (.if_icmp .ge) 26 92 := ⟨69, by decide +kernel, rfl, rfl⟩
theorem dX11_change_26 : di cX11_change 26 (.iconst 0) 1 27 := ⟨by decide +kernel, rfl⟩
theorem dX11_change_27 : di cX11_change 27 (.istore 4) 2 29 := ⟨by decide +kernel, rfl⟩
theorem dX11_change_29 : di cX11_change 29 (.iload 4) 2 31 := ⟨by decide +kernel, rfl⟩
theorem dX11_change_31 : di cX11_change 31 (.aload_n 0) 1 32 := ⟨by decide +kernel, rfl⟩
theorem dX11_change_32 : di cX11_change 32 (.getfield 38) 3 35 := ⟨by decide +kernel, rfl⟩
theorem dX11_change_35 : di cX11_change 35 (.iload_n 3) 1 36 := ⟨by decide +kernel, rfl⟩
theorem dX11_change_36 : di cX11_change 36 (.iaload) 1 37 := ⟨by decide +kernel, rfl⟩
theorem dX11_change_37 : dj cX11_change 37 (.if_icmp .ge) 40 86 := ⟨49, by decide +kernel, rfl, rfl⟩
theorem dX11_change_40 : di cX11_change 40 (.aload_n 0) 1 41 := ⟨by decide +kernel, rfl⟩
theorem dX11_change_41 : di cX11_change 41 (.iload_n 3) 1 42 := ⟨by decide +kernel, rfl⟩
theorem dX11_change_42 : di cX11_change 42 (.invokevirtual 179) 3 45 := ⟨by decide +kernel, rfl⟩
theorem dX11_change_45 : dj cX11_change 45 (.ifCond .lt) 48 86 := ⟨41, by decide +kernel, rfl, rfl⟩
theorem dX11_change_48 : di cX11_change 48 (.aload_n 0) 1 49 := ⟨by decide +kernel, rfl⟩
theorem dX11_change_49 : di cX11_change 49 (.getfield 41) 3 52 := ⟨by decide +kernel, rfl⟩
theorem dX11_change_52 : di cX11_change 52 (.bipush 6) 2 54 := ⟨by decide +kernel, rfl⟩
theorem dX11_change_54 : di cX11_change 54 (.iload_n 3) 1 55 := ⟨by decide +kernel, rfl⟩
theorem dX11_change_55 : di cX11_change 55 (.imul) 1 56 := ⟨by decide +kernel, rfl⟩
theorem dX11_change_56 : di cX11_change 56 (.iload 4) 2 58 := ⟨by decide +kernel, rfl⟩
theorem dX11_change_58 : di cX11_change 58 (.iadd) 1 59 := ⟨by decide +kernel, rfl⟩
theorem dX11_change_59 : di cX11_change 59 (.iaload) 1 60 := ⟨by decide +kernel, rfl⟩
theorem dX11_change_60 : di cX11_change 60 (.iload_n 1) 1 61 := ⟨by decide +kernel, rfl⟩
theorem dX11_change_61 : dj cX11_change 61 (.if_icmp .ne) 64 80 := ⟨19, by decide +kernel, rfl, rfl⟩
theorem dX11_change_64 : di cX11_change 64 (.aload_n 0) 1 65 := ⟨by decide +kernel, rfl⟩
theorem dX11_change_65 : di cX11_change 65 (.getfield 47) 3 68 := ⟨by decide +kernel, rfl⟩
theorem dX11_change_68 : di cX11_change 68 (.bipush 6) 2 70 := ⟨by decide +kernel, rfl⟩
theorem dX11_change_70 : di cX11_change 70 (.iload_n 3) 1 71 := ⟨by decide +kernel, rfl⟩
theorem dX11_change_71 : di cX11_change 71 (.imul) 1 72 := ⟨by decide +kernel, rfl⟩
theorem dX11_change_72 : di cX11_change 72 (.iload 4) 2 74 := ⟨by decide +kernel, rfl⟩
theorem dX11_change_74 : di cX11_change 74 (.iadd) 1 75 := ⟨by decide +kernel, rfl⟩
theorem dX11_change_75 : di cX11_change 75 (.iconst 1) 1 76 := ⟨by decide +kernel, rfl⟩
theorem dX11_change_76 : di cX11_change 76 (.bastore) 1 77 := ⟨by decide +kernel, rfl⟩
theorem dX11_change_77 : di cX11_change 77 (.iinc 2 1) 3 80 := ⟨by decide +kernel, rfl⟩
theorem dX11_change_80 : di cX11_change 80 (.iinc 4 1) 3 83 := ⟨by decide +kernel, rfl⟩
theorem dX11_change_83 : dj cX11_change 83 .goto 86 29 := ⟨-54, by decide +kernel, rfl, rfl⟩
theorem dX11_change_86 : di cX11_change 86 (.iinc 3 1) 3 89 := ⟨by decide +kernel, rfl⟩
theorem dX11_change_89 : dj cX11_change 89 .goto 92 18 := ⟨-71, by decide +kernel, rfl, rfl⟩
theorem dX11_change_92 : di cX11_change 92 (.iload_n 2) 1 93 := ⟨by decide +kernel, rfl⟩
theorem dX11_change_93 : di cX11_change 93 (.ireturn) 1 94 := ⟨by decide +kernel, rfl⟩
def f_X11_change_L29 (v1 : Int32) (v3 : Int32) : Nat → Int32 → Int32 → Mem → (Int32 → Int32 → Mem → Option Ret) → Option Ret
  | 0, _, _, _, _ => none
  | k29 + 1, v2, v4, M, K29 => gV v3 8 (if (M.1 73 v3.toNatClampNeg) ≤ v4 then (K29 v2 v4 M) else (bE (f_X11_latestOf v3 M) (fun r4 M3 => if r4 < 0 then (K29 v2 v4 M3) else (gV (((6 : Int32) * v3) + v4) 48 (jn (α := Int32 → Mem → Option Ret) (fun (y6 : Int32) (M7 : Mem) => f_X11_change_L29 v1 v3 k29 y6 (v4 + (1 : Int32)) M7 K29) (fun J5 => if (M3.1 74 (((6 : Int32) * v3) + v4).toNatClampNeg) = v1 then (gV (((6 : Int32) * v3) + v4) 48 (bM (up2 M3 76 (((6 : Int32) * v3) + v4).toNatClampNeg ((1 : Int32) &&& 1)) (fun M8 => J5 (v2 + (1 : Int32)) M8))) else (J5 v2 M3)))))))
set_option maxRecDepth 100000 in
theorem f_X11_change_L29_ok {l : Launch} {g : Cx} (v1 : Int32) (v3 : Int32)  {r : Int32} {Mr : Mem} : ∀ (k : Nat) (v2 : Int32) (v4 : Int32) (M : Mem) (K29 : Int32 → Int32 → Mem → Option Ret), f_X11_change_L29 v1 v3 k v2 v4 M K29 = some (r, Mr) → (∀ (v2 : Int32) (v4 : Int32) (M : Mem), K29 v2 v4 M = some (r, Mr) → AT l g RX11 cX11_change 5 (some .int) (rmM 1 23) (PI r Mr) 86 [some (.ref (g.1 11)), some (.int v1), some (.int v2), some (.int v3), some (.int v4)] [] M) → AT l g RX11 cX11_change 5 (some .int) (rmM 1 23) (PI r Mr) 29 [some (.ref (g.1 11)), some (.int v1), some (.int v2), some (.int v3), some (.int v4)] [] M
  | 0, v2, v4, M, K29, h, hK29 => by cases h
  | k29 + 1, v2, v4, M, K29, h, hK29 => by
    have ih29 := f_X11_change_L29_ok (l := l) (g := g) v1 v3 (r := r) (Mr := Mr) k29
    rw [f_X11_change_L29] at h
    refine A_iload dX11_change_29 rfl ?_
    refine A_aload_n dX11_change_31 rfl ?_
    refine A_getf dX11_change_32 fw_X11_38 ob11 rfl ?_
    refine A_iload_n dX11_change_35 rfl ?_
    obtain ⟨hg, h⟩ := gV_go h
    refine A_iald dX11_change_36 ia73 hg ?_
    refine A_icmp_ge dX11_change_37 (fun hc => ?_) (fun hc => ?_)
    · have h := gT_go hc h
      exact A_le (lvLe_s (lvLe_s (lvLe_s (lvLe_s (lvLe_s lvLe_0))))) (hK29 _ _ _ h)
    · have h := gF_go hc h
      refine A_aload_n dX11_change_40 rfl ?_
      refine A_iload_n dX11_change_41 rfl ?_
      obtain ⟨r4, M3, h1, h⟩ := bE_go h
      refine A_cVi1 dX11_change_42 ml_X11_179 mb_X11_latestOf mi_X11_latestOf ob11 rfl rfl ⟨Nat.le_of_ble_eq_true rfl, Nat.le_of_ble_eq_true rfl⟩ (Nat.le_of_ble_eq_true rfl) (ok_X11_latestOf h1) ?_
      refine A_if_lt dX11_change_45 (fun hc => ?_) (fun hc => ?_)
      · have h := gT_go hc h
        exact A_le (lvLe_s (lvLe_s (lvLe_s (lvLe_s (lvLe_s lvLe_0))))) (hK29 _ _ _ h)
      · have h := gF_go hc h
        refine A_aload_n dX11_change_48 rfl ?_
        refine A_getf dX11_change_49 fw_X11_41 ob11 rfl ?_
        refine A_bipush (v := 6) dX11_change_52 (by decide) ?_
        refine A_iload_n dX11_change_54 rfl ?_
        refine A_imul dX11_change_55 ?_
        refine A_iload dX11_change_56 rfl ?_
        refine A_iadd dX11_change_58 ?_
        obtain ⟨hg, h⟩ := gV_go h
        refine A_iald dX11_change_59 ia74 hg ?_
        refine A_iload_n dX11_change_60 rfl ?_
        obtain ⟨J5, hJ5, h⟩ := jn_go h
        have JJ5 : ∀ (y6 : Int32) (M7 : Mem), J5 y6 M7 = some (r, Mr) → AT l g RX11 cX11_change 5 (some .int) (rmM 1 23) (PI r Mr) 80 [some (.ref (g.1 11)), some (.int v1), some (.int y6), some (.int v3), some (.int v4)] [] M7 := by
          intro y6 M7 h
          rw [hJ5] at h
          refine A_iinc4 (d := 1) dX11_change_80 (by decide) (by decide) rfl ?_
          refine A_goto dX11_change_83 ?_
          exact A_le (lvLe_s (lvLe_s (lvLe_s (lvLe_s (lvLe_s lvLe_0))))) (ih29 _ _ _ K29 h hK29)
        refine A_icmp_ne dX11_change_61 (fun hc => ?_) (fun hc => ?_)
        · have h := gF_go hc h
          exact A_le (lvLe_s (lvLe_s (lvLe_s (lvLe_s (lvLe_s lvLe_0))))) (JJ5 _ _ h)
        · have h := gT_go hc h
          refine A_aload_n dX11_change_64 rfl ?_
          refine A_getf dX11_change_65 fw_X11_47 ob11 rfl ?_
          refine A_bipush (v := 6) dX11_change_68 (by decide) ?_
          refine A_iload_n dX11_change_70 rfl ?_
          refine A_imul dX11_change_71 ?_
          refine A_iload dX11_change_72 rfl ?_
          refine A_iadd dX11_change_74 ?_
          refine A_iconst (v := 1) dX11_change_75 (by decide) ?_
          obtain ⟨hg, h⟩ := gV_go h
          refine A_zast dX11_change_76 za76 hg (bM_go h (fun M8 h => ?_))
          refine A_iinc2 (d := 1) dX11_change_77 (by decide) (by decide) rfl ?_
          exact A_le (lvLe_s (lvLe_s (lvLe_s (lvLe_s (lvLe_s lvLe_0))))) (JJ5 _ _ h)
def f_X11_change_L18 (v1 : Int32) : Nat → Int32 → Int32 → Mem → (Int32 → Int32 → Mem → Option Ret) → Option Ret
  | 0, _, _, _, _ => none
  | k18 + 1, v2, v3, M, K18 => if (M.1 11 12) ≤ v3 then (K18 v2 v3 M) else (f_X11_change_L29 v1 v3 FU v2 (0 : Int32) M (fun w9 w10 M11 => f_X11_change_L18 v1 k18 w9 (v3 + (1 : Int32)) M11 K18))
set_option maxRecDepth 100000 in
theorem f_X11_change_L18_ok {l : Launch} {g : Cx} (v1 : Int32)  {r : Int32} {Mr : Mem} : ∀ (k : Nat) (v2 : Int32) (v3 : Int32) (M : Mem) (K18 : Int32 → Int32 → Mem → Option Ret), f_X11_change_L18 v1 k v2 v3 M K18 = some (r, Mr) → (∀ (v2 : Int32) (v3 : Int32) (M : Mem), K18 v2 v3 M = some (r, Mr) → AT l g RX11 cX11_change 5 (some .int) (rmM 1 23) (PI r Mr) 92 [some (.ref (g.1 11)), some (.int v1), some (.int v2), some (.int v3), none] [] M) → AT l g RX11 cX11_change 5 (some .int) (rmM 1 23) (PI r Mr) 18 [some (.ref (g.1 11)), some (.int v1), some (.int v2), some (.int v3), none] [] M
  | 0, v2, v3, M, K18, h, hK18 => by cases h
  | k18 + 1, v2, v3, M, K18, h, hK18 => by
    have ih18 := f_X11_change_L18_ok (l := l) (g := g) v1 (r := r) (Mr := Mr) k18
    rw [f_X11_change_L18] at h
    refine A_iload_n dX11_change_18 rfl ?_
    refine A_aload_n dX11_change_19 rfl ?_
    refine A_getf dX11_change_20 fw_X11_130 ob11 rfl ?_
    refine A_icmp_ge dX11_change_23 (fun hc => ?_) (fun hc => ?_)
    · have h := gT_go hc h
      exact A_le (lvLe_s (lvLe_s (lvLe_s (lvLe_s (lvLe_n lvLe_0))))) (hK18 _ _ _ h)
    · have h := gF_go hc h
      refine A_iconst (v := 0) dX11_change_26 (by decide) ?_
      refine A_istore4 dX11_change_27 (by decide) rfl ?_
      refine f_X11_change_L29_ok _ _ FU _ _ _ _ h (fun w9 w10 M11 h => ?_)
      refine A_iinc3 (d := 1) dX11_change_86 (by decide) (by decide) rfl ?_
      refine A_goto dX11_change_89 ?_
      exact A_le (lvLe_s (lvLe_s (lvLe_s (lvLe_s (lvLe_n lvLe_0))))) (ih18 _ _ _ K18 h hK18)
def f_X11_change (v1 : Int32) (M : Mem) : Option Ret := bE (f_X11_isElement v1 M) (fun r2 M1 => if r2 = 0 then (bE (f_X11_finding (1 : Int32) M1) (fun r16 M15 => some (r16, M15))) else (f_X11_change_L18 v1 FU (0 : Int32) (0 : Int32) M1 (fun w12 w13 M14 => some (w12, M14))))
set_option maxRecDepth 100000 in
theorem ok_X11_change {l : Launch} {g : Cx} {v1 : Int32} {M : Mem} {r : Int32} {Mr : Mem} (h : f_X11_change v1 M = some (r, Mr)) : CT l g yX11_change cX11_change 5 (some .int) 1 23 [.ref (g.1 11), .int v1] M (PI r Mr) := by
  refine CT_of (lv := [some (.ref (g.1 11)), some (.int v1), none, none, none]) (by decide) rfl (Nat.le_of_ble_eq_true rfl) ?_
  unfold f_X11_change at h
  refine A_aload_n dX11_change_0 rfl ?_
  refine A_iload_n dX11_change_1 rfl ?_
  obtain ⟨r2, M1, h1, h⟩ := bE_go h
  refine A_cVi1 dX11_change_2 ml_X11_141 mb_X11_isElement mi_X11_isElement ob11 rfl rfl ⟨Nat.le_of_ble_eq_true rfl, Nat.le_of_ble_eq_true rfl⟩ (Nat.le_of_ble_eq_true rfl) (ok_X11_isElement h1) ?_
  refine A_if_ne dX11_change_5 (fun hc => ?_) (fun hc => ?_)
  · have h := gF_go hc h
    refine A_iconst (v := 0) dX11_change_14 (by decide) ?_
    refine A_istoren2 dX11_change_15 (by decide) rfl ?_
    refine A_iconst (v := 0) dX11_change_16 (by decide) ?_
    refine A_istoren3 dX11_change_17 (by decide) rfl ?_
    refine f_X11_change_L18_ok _ FU _ _ _ _ h (fun w12 w13 M14 h => ?_)
    refine A_iload_n dX11_change_92 rfl ?_
    exact A_iret dX11_change_93 (pI_go h)
  · have h := gT_go hc h
    refine A_aload_n dX11_change_8 rfl ?_
    refine A_iconst (v := 1) dX11_change_9 (by decide) ?_
    obtain ⟨r16, M15, h1, h⟩ := bE_go h
    refine A_cVi1 dX11_change_10 ml_X11_137 mb_X11_finding mi_X11_finding ob11 rfl rfl ⟨Nat.le_of_ble_eq_true rfl, Nat.le_of_ble_eq_true rfl⟩ (Nat.le_of_ble_eq_true rfl) (ok_X11_finding h1) ?_
    exact A_iret dX11_change_13 (pI_go h)
-- BenchTimesModel.move
theorem dX11_move_0 : di cX11_move 0 (.aload_n 0) 1 1 := ⟨by decide +kernel, rfl⟩
theorem dX11_move_1 : di cX11_move 1 (.iload_n 1) 1 2 := ⟨by decide +kernel, rfl⟩
theorem dX11_move_2 : di cX11_move 2 (.invokevirtual 176) 3 5 := ⟨by decide +kernel, rfl⟩
theorem dX11_move_5 : dj cX11_move 5 (.ifCond .ne) 8 14 := ⟨9, by decide +kernel, rfl, rfl⟩
theorem dX11_move_8 : di cX11_move 8 (.aload_n 0) 1 9 := ⟨by decide +kernel, rfl⟩
theorem dX11_move_9 : di cX11_move 9 (.iconst 1) 1 10 := ⟨by decide +kernel, rfl⟩
theorem dX11_move_10 : di cX11_move 10 (.invokevirtual 137) 3 13 := ⟨by decide +kernel, rfl⟩
theorem dX11_move_13 : di cX11_move 13 (.ireturn) 1 14 := ⟨by decide +kernel, rfl⟩
theorem dX11_move_14 : di cX11_move 14 (.aload_n 0) 1 15 := ⟨by decide +kernel, rfl⟩
theorem dX11_move_15 : di cX11_move 15 (.iload_n 1) 1 16 := ⟨by decide +kernel, rfl⟩
theorem dX11_move_16 : di cX11_move 16 (.invokevirtual 179) 3 19 := ⟨by decide +kernel, rfl⟩
theorem dX11_move_19 : di cX11_move 19 (.istore_n 2) 1 20 := ⟨by decide +kernel, rfl⟩
theorem dX11_move_20 : di cX11_move 20 (.iload_n 2) 1 21 := ⟨by decide +kernel, rfl⟩
theorem dX11_move_21 : dj cX11_move 21 (.ifCond .ge) 24 30 := ⟨9, by decide +kernel, rfl, rfl⟩
theorem dX11_move_24 : di cX11_move 24 (.aload_n 0) 1 25 := ⟨by decide +kernel, rfl⟩
theorem dX11_move_25 : di cX11_move 25 (.iconst 3) 1 26 := ⟨by decide +kernel, rfl⟩
theorem dX11_move_26 : di cX11_move 26 (.invokevirtual 137) 3 29 := ⟨by decide +kernel, rfl⟩
theorem dX11_move_29 : di cX11_move 29 (.ireturn) 1 30 := ⟨by decide +kernel, rfl⟩
theorem dX11_move_30 : di cX11_move 30 (.iconst 0) 1 31 := ⟨by decide +kernel, rfl⟩
theorem dX11_move_31 : di cX11_move 31 (.istore_n 3) 1 32 := ⟨by decide +kernel, rfl⟩
theorem dX11_move_32 : di cX11_move 32 (.iconst 0) 1 33 := ⟨by decide +kernel, rfl⟩
theorem dX11_move_33 : di cX11_move 33 (.istore 4) 2 35 := ⟨by decide +kernel, rfl⟩
theorem dX11_move_35 : di cX11_move 35 (.iconst 0) 1 36 := ⟨by decide +kernel, rfl⟩
theorem dX11_move_36 : di cX11_move 36 (.istore 5) 2 38 := ⟨by decide +kernel, rfl⟩
theorem dX11_move_38 : di cX11_move 38 (.iload 5) 2 40 := ⟨by decide +kernel, rfl⟩
theorem dX11_move_40 : di cX11_move 40 (.aload_n 0) 1 41 := ⟨by decide +kernel, rfl⟩
theorem dX11_move_41 : di cX11_move 41 (.getfield 38) 3 44 := ⟨by decide +kernel, rfl⟩
theorem dX11_move_44 : di cX11_move 44 (.iload_n 1) 1 45 := ⟨by decide +kernel, rfl⟩
theorem dX11_move_45 : di cX11_move 45 (.iaload) 1 46 := ⟨by decide +kernel, rfl⟩
theorem dX11_move_46 : dj cX11_move 46 (.if_icmp .ge) 49 102 := ⟨56, by decide +kernel, rfl, rfl⟩
theorem dX11_move_49 : di cX11_move 49 (.aload_n 0) 1 50 := ⟨by decide +kernel, rfl⟩
theorem dX11_move_50 : di cX11_move 50 (.getfield 47) 3 53 := ⟨by decide +kernel, rfl⟩
theorem dX11_move_53 : di cX11_move 53 (.bipush 6) 2 55 := ⟨by decide +kernel, rfl⟩
theorem dX11_move_55 : di cX11_move 55 (.iload_n 1) 1 56 := ⟨by decide +kernel, rfl⟩
theorem dX11_move_56 : di cX11_move 56 (.imul) 1 57 := ⟨by decide +kernel, rfl⟩
theorem dX11_move_57 : di cX11_move 57 (.iload 5) 2 59 := ⟨by decide +kernel, rfl⟩
theorem dX11_move_59 : di cX11_move 59 (.iadd) 1 60 := ⟨by decide +kernel, rfl⟩
theorem dX11_move_60 : di cX11_move 60 (.baload) 1 61 := ⟨by decide +kernel, rfl⟩
theorem dX11_move_61 : dj cX11_move 61 (.ifCond .eq) 64 96 := ⟨35, by decide +kernel, rfl, rfl⟩
theorem dX11_move_64 : di cX11_move 64 (.iconst 1) 1 65 := ⟨by decide +kernel, rfl⟩
theorem dX11_move_65 : di cX11_move 65 (.istore_n 3) 1 66 := ⟨by decide +kernel, rfl⟩
theorem dX11_move_66 : di cX11_move 66 (.iload 4) 2 68 := ⟨by decide +kernel, rfl⟩
theorem dX11_move_68 : di cX11_move 68 (.aload_n 0) 1 69 := ⟨by decide +kernel, rfl⟩
theorem dX11_move_69 : di cX11_move 69 (.getfield 57) 3 72 := ⟨by decide +kernel, rfl⟩
theorem dX11_move_72 : di cX11_move 72 (.bipush 6) 2 74 := ⟨by decide +kernel, rfl⟩
theorem dX11_move_74 : di cX11_move 74 (.iload_n 2) 1 75 := ⟨by decide +kernel, rfl⟩
theorem dX11_move_75 : di cX11_move 75 (.imul) 1 76 := ⟨by decide +kernel, rfl⟩
theorem dX11_move_76 : di cX11_move 76 (.iload 5) 2 78 := ⟨by decide +kernel, rfl⟩
theorem dX11_move_78 : di cX11_move 78 (.iadd) 1 79 := ⟨by decide +kernel, rfl⟩
theorem dX11_move_79 : di cX11_move 79 (.iaload) 1 80 := ⟨by decide +kernel, rfl⟩
theorem dX11_move_80 : di cX11_move 80 (.aload_n 0) 1 81 := ⟨by decide +kernel, rfl⟩
theorem dX11_move_81 : di cX11_move 81 (.getfield 44) 3 84 := ⟨by decide +kernel, rfl⟩
theorem dX11_move_84 : di cX11_move 84 (.bipush 6) 2 86 := ⟨by decide +kernel, rfl⟩
theorem dX11_move_86 : di cX11_move 86 (.iload_n 1) 1 87 := ⟨by decide +kernel, rfl⟩
theorem dX11_move_87 : di cX11_move 87 (.imul) 1 88 := ⟨by decide +kernel, rfl⟩
theorem dX11_move_88 : di cX11_move 88 (.iload 5) 2 90 := ⟨by decide +kernel, rfl⟩
theorem dX11_move_90 : di cX11_move 90 (.iadd) 1 91 := ⟨by decide +kernel, rfl⟩
theorem dX11_move_91 : di cX11_move 91 (.iaload) 1 92 := ⟨by decide +kernel, rfl⟩
theorem dX11_move_92 : di cX11_move 92 (.imul) 1 93 := ⟨by decide +kernel, rfl⟩
theorem dX11_move_93 : di cX11_move 93 (.iadd) 1 94 := ⟨by decide +kernel, rfl⟩
theorem dX11_move_94 : di cX11_move 94 (.istore 4) 2 96 := ⟨by decide +kernel, rfl⟩
theorem dX11_move_96 : di cX11_move 96 (.iinc 5 1) 3 99 := ⟨by decide +kernel, rfl⟩
theorem dX11_move_99 : dj cX11_move 99 .goto 102 38 := ⟨-61, by decide +kernel, rfl, rfl⟩
theorem dX11_move_102 : di cX11_move 102 (.iload_n 3) 1 103 := ⟨by decide +kernel, rfl⟩
theorem dX11_move_103 : dj cX11_move 103 (.ifCond .eq) 106 126 := ⟨23, by decide +kernel, rfl, rfl⟩
theorem dX11_move_106 : di cX11_move 106 (.bipush 100) 2 108 := ⟨by decide +kernel, rfl⟩
theorem dX11_move_108 : di cX11_move 108 (.iload 4) 2 110 := ⟨by decide +kernel, rfl⟩
theorem dX11_move_110 : di cX11_move 110 (.imul) 1 111 := ⟨by decide +kernel, rfl⟩
theorem dX11_move_111 : di cX11_move 111 (.aload_n 0) 1 112 := ⟨by decide +kernel, rfl⟩
theorem dX11_move_112 : di cX11_move 112 (.getfield 60) 3 115 := ⟨by decide +kernel, rfl⟩
theorem dX11_move_115 : di cX11_move 115 (.iconst 0) 1 116 := ⟨by decide +kernel, rfl⟩
theorem dX11_move_116 : di cX11_move 116 (.iaload) 1 117 := ⟨by decide +kernel, rfl⟩
theorem dX11_move_117 : di cX11_move 117 (.aload_n 0) 1 118 := ⟨by decide +kernel, rfl⟩
theorem dX11_move_118 : di cX11_move 118 (.iload_n 2) 1 119 := ⟨by decide +kernel, rfl⟩
theorem dX11_move_119 : di cX11_move 119 (.invokevirtual 182) 3 122 := ⟨by decide +kernel, rfl⟩
theorem dX11_move_122 : di cX11_move 122 (.imul) 1 123 := ⟨by decide +kernel, rfl⟩
theorem dX11_move_123 : dj cX11_move 123 (.if_icmp .ge) 126 132 := ⟨9, by decide +kernel, rfl, rfl⟩
theorem dX11_move_126 : di cX11_move 126 (.aload_n 0) 1 127 := ⟨by decide +kernel, rfl⟩
theorem dX11_move_127 : di cX11_move 127 (.iconst 3) 1 128 := ⟨by decide +kernel, rfl⟩
theorem dX11_move_128 : di cX11_move 128 (.invokevirtual 137) 3 131 := ⟨by decide +kernel, rfl⟩
theorem dX11_move_131 : di cX11_move 131 (.ireturn) 1 132 := ⟨by decide +kernel, rfl⟩
theorem dX11_move_132 : di cX11_move 132 (.aload_n 0) 1 133 := ⟨by decide +kernel, rfl⟩
theorem dX11_move_133 : di cX11_move 133 (.getfield 173) 3 136 := ⟨by decide +kernel, rfl⟩
theorem dX11_move_136 : di cX11_move 136 (.bipush 40) 2 138 := ⟨by decide +kernel, rfl⟩
theorem dX11_move_138 : dj cX11_move 138 (.if_icmp .ne) 141 147 := ⟨9, by decide +kernel, rfl, rfl⟩
theorem dX11_move_141 : di cX11_move 141 (.aload_n 0) 1 142 := ⟨by decide +kernel, rfl⟩
theorem dX11_move_142 : di cX11_move 142 (.iconst 4) 1 143 := ⟨by decide +kernel, rfl⟩
theorem dX11_move_143 : di cX11_move 143 (.invokevirtual 137) 3 146 := ⟨by decide +kernel, rfl⟩
theorem dX11_move_146 : di cX11_move 146 (.ireturn) 1 147 := ⟨by decide +kernel, rfl⟩
theorem dX11_move_147 : di cX11_move 147 (.aload_n 0) 1 148 := ⟨by decide +kernel, rfl⟩
theorem dX11_move_148 : di cX11_move 148 (.getfield 185) 3 151 := ⟨by decide +kernel, rfl⟩
theorem dX11_move_151 : di cX11_move 151 (.aload_n 0) 1 152 := ⟨by decide +kernel, rfl⟩
theorem dX11_move_152 : di cX11_move 152 (.getfield 60) 3 155 := ⟨by decide +kernel, rfl⟩
theorem dX11_move_155 : di cX11_move 155 (.iconst 1) 1 156 := ⟨by decide +kernel, rfl⟩
theorem dX11_move_156 : di cX11_move 156 (.iaload) 1 157 := ⟨by decide +kernel, rfl⟩
theorem dX11_move_157 : di cX11_move 157 (.iadd) 1 158 := ⟨by decide +kernel, rfl⟩
theorem dX11_move_158 : di cX11_move 158 (.istore 5) 2 160 := ⟨by decide +kernel, rfl⟩
theorem dX11_move_160 : di cX11_move 160 (.aload_n 0) 1 161 := ⟨by decide +kernel, rfl⟩
theorem dX11_move_161 : di cX11_move 161 (.iload_n 1) 1 162 := ⟨by decide +kernel, rfl⟩
theorem dX11_move_162 : di cX11_move 162 (.iload 5) 2 164 := ⟨by decide +kernel, rfl⟩
theorem dX11_move_164 : di cX11_move 164 (.aload_n 0) 1 165 := ⟨by decide +kernel, rfl⟩
theorem dX11_move_165 : di cX11_move 165 (.getfield 54) 3 168 := ⟨by decide +kernel, rfl⟩
theorem dX11_move_168 : di cX11_move 168 (.iload_n 2) 1 169 := ⟨by decide +kernel, rfl⟩
theorem dX11_move_169 : di cX11_move 169 (.iaload) 1 170 := ⟨by decide +kernel, rfl⟩
theorem dX11_move_170 : dj cX11_move 170 (.if_icmp .ge) 173 182 := ⟨12, by decide +kernel, rfl, rfl⟩
theorem dX11_move_173 : di cX11_move 173 (.aload_n 0) 1 174 := ⟨by decide +kernel, rfl⟩
theorem dX11_move_174 : di cX11_move 174 (.getfield 54) 3 177 := ⟨by decide +kernel, rfl⟩
theorem dX11_move_177 : di cX11_move 177 (.iload_n 2) 1 178 := ⟨by decide +kernel, rfl⟩
theorem dX11_move_178 : di cX11_move 178 (.iaload) 1 179 := ⟨by decide +kernel, rfl⟩
theorem dX11_move_179 : dj cX11_move 179 .goto 182 184 := ⟨5, by decide +kernel, rfl, rfl⟩
theorem dX11_move_182 : di cX11_move 182 (.iload 5) 2 184 := ⟨by decide +kernel, rfl⟩
theorem dX11_move_184 : di cX11_move 184 (.iload_n 2) 1 185 := ⟨by decide +kernel, rfl⟩
theorem dX11_move_185 : di cX11_move 185 (.invokevirtual 188) 3 188 := ⟨by decide +kernel, rfl⟩
theorem dX11_move_188 : di cX11_move 188 (.ireturn) 1 189 := ⟨by decide +kernel, rfl⟩
def f_X11_move_L38 (v1 : Int32) (v2 : Int32) : Nat → Int32 → Int32 → Int32 → Mem → (Int32 → Int32 → Int32 → Mem → Option Ret) → Option Ret
  | 0, _, _, _, _, _ => none
  | k38 + 1, v3, v4, v5, M, K38 => gV v1 8 (if (M.1 73 v1.toNatClampNeg) ≤ v5 then (K38 v3 v4 v5 M) else (gV (((6 : Int32) * v1) + v5) 48 (jn (α := Int32 → Int32 → Option Ret) (fun (y6 : Int32) (y7 : Int32) => f_X11_move_L38 v1 v2 k38 y6 y7 (v5 + (1 : Int32)) M K38) (fun J5 => if (M.1 76 (((6 : Int32) * v1) + v5).toNatClampNeg) = 0 then (J5 v3 v4) else (gV (((6 : Int32) * v2) + v5) 240 (gV (((6 : Int32) * v1) + v5) 48 (bI (v4 + ((M.1 79 (((6 : Int32) * v2) + v5).toNatClampNeg) * (M.1 75 (((6 : Int32) * v1) + v5).toNatClampNeg))) (fun x8 => J5 (1 : Int32) x8))))))))
set_option maxRecDepth 100000 in
theorem f_X11_move_L38_ok {l : Launch} {g : Cx} (v1 : Int32) (v2 : Int32)  {r : Int32} {Mr : Mem} : ∀ (k : Nat) (v3 : Int32) (v4 : Int32) (v5 : Int32) (M : Mem) (K38 : Int32 → Int32 → Int32 → Mem → Option Ret), f_X11_move_L38 v1 v2 k v3 v4 v5 M K38 = some (r, Mr) → (∀ (v3 : Int32) (v4 : Int32) (v5 : Int32) (M : Mem), K38 v3 v4 v5 M = some (r, Mr) → AT l g RX11 cX11_move 6 (some .int) (rmM 5 123) (PI r Mr) 102 [some (.ref (g.1 11)), some (.int v1), some (.int v2), some (.int v3), some (.int v4), some (.int v5)] [] M) → AT l g RX11 cX11_move 6 (some .int) (rmM 5 123) (PI r Mr) 38 [some (.ref (g.1 11)), some (.int v1), some (.int v2), some (.int v3), some (.int v4), some (.int v5)] [] M
  | 0, v3, v4, v5, M, K38, h, hK38 => by cases h
  | k38 + 1, v3, v4, v5, M, K38, h, hK38 => by
    have ih38 := f_X11_move_L38_ok (l := l) (g := g) v1 v2 (r := r) (Mr := Mr) k38
    rw [f_X11_move_L38] at h
    refine A_iload dX11_move_38 rfl ?_
    refine A_aload_n dX11_move_40 rfl ?_
    refine A_getf dX11_move_41 fw_X11_38 ob11 rfl ?_
    refine A_iload_n dX11_move_44 rfl ?_
    obtain ⟨hg, h⟩ := gV_go h
    refine A_iald dX11_move_45 ia73 hg ?_
    refine A_icmp_ge dX11_move_46 (fun hc => ?_) (fun hc => ?_)
    · have h := gT_go hc h
      exact A_le (lvLe_s (lvLe_s (lvLe_s (lvLe_s (lvLe_s (lvLe_s lvLe_0)))))) (hK38 _ _ _ _ h)
    · have h := gF_go hc h
      refine A_aload_n dX11_move_49 rfl ?_
      refine A_getf dX11_move_50 fw_X11_47 ob11 rfl ?_
      refine A_bipush (v := 6) dX11_move_53 (by decide) ?_
      refine A_iload_n dX11_move_55 rfl ?_
      refine A_imul dX11_move_56 ?_
      refine A_iload dX11_move_57 rfl ?_
      refine A_iadd dX11_move_59 ?_
      obtain ⟨hg, h⟩ := gV_go h
      refine A_zald dX11_move_60 za76 hg ?_
      obtain ⟨J5, hJ5, h⟩ := jn_go h
      have JJ5 : ∀ (y6 : Int32) (y7 : Int32), J5 y6 y7 = some (r, Mr) → AT l g RX11 cX11_move 6 (some .int) (rmM 5 123) (PI r Mr) 96 [some (.ref (g.1 11)), some (.int v1), some (.int v2), some (.int y6), some (.int y7), some (.int v5)] [] M := by
        intro y6 y7 h
        rw [hJ5] at h
        refine A_iinc5 (d := 1) dX11_move_96 (by decide) (by decide) rfl ?_
        refine A_goto dX11_move_99 ?_
        exact A_le (lvLe_s (lvLe_s (lvLe_s (lvLe_s (lvLe_s (lvLe_s lvLe_0)))))) (ih38 _ _ _ _ K38 h hK38)
      refine A_if_eq dX11_move_61 (fun hc => ?_) (fun hc => ?_)
      · have h := gT_go hc h
        exact A_le (lvLe_s (lvLe_s (lvLe_s (lvLe_s (lvLe_s (lvLe_s lvLe_0)))))) (JJ5 _ _ h)
      · have h := gF_go hc h
        refine A_iconst (v := 1) dX11_move_64 (by decide) ?_
        refine A_istoren3 dX11_move_65 (by decide) rfl ?_
        refine A_iload dX11_move_66 rfl ?_
        refine A_aload_n dX11_move_68 rfl ?_
        refine A_getf dX11_move_69 fw_X11_57 ob11 rfl ?_
        refine A_bipush (v := 6) dX11_move_72 (by decide) ?_
        refine A_iload_n dX11_move_74 rfl ?_
        refine A_imul dX11_move_75 ?_
        refine A_iload dX11_move_76 rfl ?_
        refine A_iadd dX11_move_78 ?_
        obtain ⟨hg, h⟩ := gV_go h
        refine A_iald dX11_move_79 ia79 hg ?_
        refine A_aload_n dX11_move_80 rfl ?_
        refine A_getf dX11_move_81 fw_X11_44 ob11 rfl ?_
        refine A_bipush (v := 6) dX11_move_84 (by decide) ?_
        refine A_iload_n dX11_move_86 rfl ?_
        refine A_imul dX11_move_87 ?_
        refine A_iload dX11_move_88 rfl ?_
        refine A_iadd dX11_move_90 ?_
        obtain ⟨hg, h⟩ := gV_go h
        refine A_iald dX11_move_91 ia75 hg ?_
        refine A_imul dX11_move_92 ?_
        refine A_iadd dX11_move_93 ?_
        refine A_istore4 dX11_move_94 (by decide) rfl (bI_go h (G := fun z => AT l g RX11 cX11_move 6 (some .int) (rmM 5 123) (PI r Mr) 96 [some (.ref (g.1 11)), some (.int v1), some (.int v2), some (.int (1 : Int32)), some (.int z), some (.int v5)] [] M) (fun x8 h => ?_))
        exact A_le (lvLe_s (lvLe_s (lvLe_s (lvLe_s (lvLe_s (lvLe_s lvLe_0)))))) (JJ5 _ _ h)
def f_X11_move (v1 : Int32) (M : Mem) : Option Ret := bE (f_X11_isJob v1 M) (fun r2 M1 => if r2 = 0 then (bE (f_X11_finding (1 : Int32) M1) (fun r29 M28 => some (r29, M28))) else (bE (f_X11_latestOf v1 M1) (fun r4 M3 => if 0 ≤ r4 then (f_X11_move_L38 v1 r4 FU (0 : Int32) (0 : Int32) (0 : Int32) M3 (fun w9 w10 w11 M12 => if w9 = 0 then (bE (f_X11_finding (3 : Int32) M12) (fun r14 M13 => some (r14, M13))) else (gV (0 : Int32) 5 (bE (f_X11_sumOf r4 M12) (fun r16 M15 => if ((M12.1 80 (0 : Int32).toNatClampNeg) * r16) ≤ ((100 : Int32) * w10) then (if (M15.1 11 17) = (40 : Int32) then (bE (f_X11_finding (4 : Int32) M15) (fun r23 M22 => some (r23, M22))) else (gV (1 : Int32) 5 (bI ((M15.1 11 21) + (M15.1 80 (1 : Int32).toNatClampNeg)) (fun x17 => gV r4 40 (jn (α := Int32 → Option Ret) (fun (z19 : Int32) => bE (f_X11_make v1 z19 r4 M15) (fun r21 M20 => some (r21, M20))) (fun J18 => if (M15.1 78 r4.toNatClampNeg) ≤ x17 then (J18 x17) else (gV r4 40 (J18 (M15.1 78 r4.toNatClampNeg))))))))) else (bE (f_X11_finding (3 : Int32) M15) (fun r25 M24 => some (r25, M24)))))))) else (bE (f_X11_finding (3 : Int32) M3) (fun r27 M26 => some (r27, M26))))))
set_option maxRecDepth 100000 in
theorem ok_X11_move {l : Launch} {g : Cx} {v1 : Int32} {M : Mem} {r : Int32} {Mr : Mem} (h : f_X11_move v1 M = some (r, Mr)) : CT l g yX11_move cX11_move 6 (some .int) 5 123 [.ref (g.1 11), .int v1] M (PI r Mr) := by
  refine CT_of (lv := [some (.ref (g.1 11)), some (.int v1), none, none, none, none]) (by decide) rfl (Nat.le_of_ble_eq_true rfl) ?_
  unfold f_X11_move at h
  refine A_aload_n dX11_move_0 rfl ?_
  refine A_iload_n dX11_move_1 rfl ?_
  obtain ⟨r2, M1, h1, h⟩ := bE_go h
  refine A_cVi1 dX11_move_2 ml_X11_176 mb_X11_isJob mi_X11_isJob ob11 rfl rfl ⟨Nat.le_of_ble_eq_true rfl, Nat.le_of_ble_eq_true rfl⟩ (Nat.le_of_ble_eq_true rfl) (ok_X11_isJob h1) ?_
  refine A_if_ne dX11_move_5 (fun hc => ?_) (fun hc => ?_)
  · have h := gF_go hc h
    refine A_aload_n dX11_move_14 rfl ?_
    refine A_iload_n dX11_move_15 rfl ?_
    obtain ⟨r4, M3, h1, h⟩ := bE_go h
    refine A_cVi1 dX11_move_16 ml_X11_179 mb_X11_latestOf mi_X11_latestOf ob11 rfl rfl ⟨Nat.le_of_ble_eq_true rfl, Nat.le_of_ble_eq_true rfl⟩ (Nat.le_of_ble_eq_true rfl) (ok_X11_latestOf h1) ?_
    refine A_istoren2 dX11_move_19 (by decide) rfl ?_
    refine A_iload_n dX11_move_20 rfl ?_
    refine A_if_ge dX11_move_21 (fun hc => ?_) (fun hc => ?_)
    · have h := gT_go hc h
      refine A_iconst (v := 0) dX11_move_30 (by decide) ?_
      refine A_istoren3 dX11_move_31 (by decide) rfl ?_
      refine A_iconst (v := 0) dX11_move_32 (by decide) ?_
      refine A_istore4 dX11_move_33 (by decide) rfl ?_
      refine A_iconst (v := 0) dX11_move_35 (by decide) ?_
      refine A_istore5 dX11_move_36 (by decide) rfl ?_
      refine f_X11_move_L38_ok _ _ FU _ _ _ _ _ h (fun w9 w10 w11 M12 h => ?_)
      refine A_iload_n dX11_move_102 rfl ?_
      refine A_if_eq dX11_move_103 (fun hc => ?_) (fun hc => ?_)
      · have h := gT_go hc h
        refine A_aload_n dX11_move_126 rfl ?_
        refine A_iconst (v := 3) dX11_move_127 (by decide) ?_
        obtain ⟨r14, M13, h1, h⟩ := bE_go h
        refine A_cVi1 dX11_move_128 ml_X11_137 mb_X11_finding mi_X11_finding ob11 rfl rfl ⟨Nat.le_of_ble_eq_true rfl, Nat.le_of_ble_eq_true rfl⟩ (Nat.le_of_ble_eq_true rfl) (ok_X11_finding h1) ?_
        exact A_iret dX11_move_131 (pI_go h)
      · have h := gF_go hc h
        refine A_bipush (v := 100) dX11_move_106 (by decide) ?_
        refine A_iload dX11_move_108 rfl ?_
        refine A_imul dX11_move_110 ?_
        refine A_aload_n dX11_move_111 rfl ?_
        refine A_getf dX11_move_112 fw_X11_60 ob11 rfl ?_
        refine A_iconst (v := 0) dX11_move_115 (by decide) ?_
        obtain ⟨hg, h⟩ := gV_go h
        refine A_iald dX11_move_116 ia80 hg ?_
        refine A_aload_n dX11_move_117 rfl ?_
        refine A_iload_n dX11_move_118 rfl ?_
        obtain ⟨r16, M15, h1, h⟩ := bE_go h
        refine A_cVi1 dX11_move_119 ml_X11_182 mb_X11_sumOf mi_X11_sumOf ob11 rfl rfl ⟨Nat.le_of_ble_eq_true rfl, Nat.le_of_ble_eq_true rfl⟩ (Nat.le_of_ble_eq_true rfl) (ok_X11_sumOf h1) ?_
        refine A_imul dX11_move_122 ?_
        refine A_icmp_ge dX11_move_123 (fun hc => ?_) (fun hc => ?_)
        · have h := gT_go hc h
          refine A_aload_n dX11_move_132 rfl ?_
          refine A_getf dX11_move_133 fw_X11_173 ob11 rfl ?_
          refine A_bipush (v := 40) dX11_move_136 (by decide) ?_
          refine A_icmp_ne dX11_move_138 (fun hc => ?_) (fun hc => ?_)
          · have h := gF_go hc h
            refine A_aload_n dX11_move_147 rfl ?_
            refine A_getf dX11_move_148 fw_X11_185 ob11 rfl ?_
            refine A_aload_n dX11_move_151 rfl ?_
            refine A_getf dX11_move_152 fw_X11_60 ob11 rfl ?_
            refine A_iconst (v := 1) dX11_move_155 (by decide) ?_
            obtain ⟨hg, h⟩ := gV_go h
            refine A_iald dX11_move_156 ia80 hg ?_
            refine A_iadd dX11_move_157 ?_
            refine A_istore5 dX11_move_158 (by decide) rfl (bI_go h (G := fun z => AT l g RX11 cX11_move 6 (some .int) (rmM 5 123) (PI r Mr) 160 [some (.ref (g.1 11)), some (.int v1), some (.int r4), some (.int w9), some (.int w10), some (.int z)] [] M15) (fun x17 h => ?_))
            refine A_aload_n dX11_move_160 rfl ?_
            refine A_iload_n dX11_move_161 rfl ?_
            refine A_iload dX11_move_162 rfl ?_
            refine A_aload_n dX11_move_164 rfl ?_
            refine A_getf dX11_move_165 fw_X11_54 ob11 rfl ?_
            refine A_iload_n dX11_move_168 rfl ?_
            obtain ⟨hg, h⟩ := gV_go h
            refine A_iald dX11_move_169 ia78 hg ?_
            obtain ⟨J18, hJ18, h⟩ := jn_go h
            have JJ18 : ∀ (z19 : Int32), J18 z19 = some (r, Mr) → AT l g RX11 cX11_move 6 (some .int) (rmM 5 123) (PI r Mr) 184 [some (.ref (g.1 11)), some (.int v1), some (.int r4), some (.int w9), some (.int w10), some (.int x17)] [.int z19, .int v1, .ref (g.1 11)] M15 := by
              intro z19 h
              rw [hJ18] at h
              refine A_iload_n dX11_move_184 rfl ?_
              obtain ⟨r21, M20, h1, h⟩ := bE_go h
              refine A_cVi3 dX11_move_185 ml_X11_188 mb_X11_make mi_X11_make ob11 rfl rfl ⟨Nat.le_of_ble_eq_true rfl, Nat.le_of_ble_eq_true rfl⟩ (Nat.le_of_ble_eq_true rfl) (ok_X11_make h1) ?_
              exact A_iret dX11_move_188 (pI_go h)
            refine A_icmp_ge dX11_move_170 (fun hc => ?_) (fun hc => ?_)
            · have h := gT_go hc h
              refine A_iload dX11_move_182 rfl ?_
              exact A_le (lvLe_s (lvLe_s (lvLe_s (lvLe_s (lvLe_s (lvLe_s lvLe_0)))))) (JJ18 _ h)
            · have h := gF_go hc h
              refine A_aload_n dX11_move_173 rfl ?_
              refine A_getf dX11_move_174 fw_X11_54 ob11 rfl ?_
              refine A_iload_n dX11_move_177 rfl ?_
              obtain ⟨hg, h⟩ := gV_go h
              refine A_iald dX11_move_178 ia78 hg ?_
              refine A_goto dX11_move_179 ?_
              exact A_le (lvLe_s (lvLe_s (lvLe_s (lvLe_s (lvLe_s (lvLe_s lvLe_0)))))) (JJ18 _ h)
          · have h := gT_go hc h
            refine A_aload_n dX11_move_141 rfl ?_
            refine A_iconst (v := 4) dX11_move_142 (by decide) ?_
            obtain ⟨r23, M22, h1, h⟩ := bE_go h
            refine A_cVi1 dX11_move_143 ml_X11_137 mb_X11_finding mi_X11_finding ob11 rfl rfl ⟨Nat.le_of_ble_eq_true rfl, Nat.le_of_ble_eq_true rfl⟩ (Nat.le_of_ble_eq_true rfl) (ok_X11_finding h1) ?_
            exact A_iret dX11_move_146 (pI_go h)
        · have h := gF_go hc h
          refine A_aload_n dX11_move_126 rfl ?_
          refine A_iconst (v := 3) dX11_move_127 (by decide) ?_
          obtain ⟨r25, M24, h1, h⟩ := bE_go h
          refine A_cVi1 dX11_move_128 ml_X11_137 mb_X11_finding mi_X11_finding ob11 rfl rfl ⟨Nat.le_of_ble_eq_true rfl, Nat.le_of_ble_eq_true rfl⟩ (Nat.le_of_ble_eq_true rfl) (ok_X11_finding h1) ?_
          exact A_iret dX11_move_131 (pI_go h)
    · have h := gF_go hc h
      refine A_aload_n dX11_move_24 rfl ?_
      refine A_iconst (v := 3) dX11_move_25 (by decide) ?_
      obtain ⟨r27, M26, h1, h⟩ := bE_go h
      refine A_cVi1 dX11_move_26 ml_X11_137 mb_X11_finding mi_X11_finding ob11 rfl rfl ⟨Nat.le_of_ble_eq_true rfl, Nat.le_of_ble_eq_true rfl⟩ (Nat.le_of_ble_eq_true rfl) (ok_X11_finding h1) ?_
      exact A_iret dX11_move_29 (pI_go h)
  · have h := gT_go hc h
    refine A_aload_n dX11_move_8 rfl ?_
    refine A_iconst (v := 1) dX11_move_9 (by decide) ?_
    obtain ⟨r29, M28, h1, h⟩ := bE_go h
    refine A_cVi1 dX11_move_10 ml_X11_137 mb_X11_finding mi_X11_finding ob11 rfl rfl ⟨Nat.le_of_ble_eq_true rfl, Nat.le_of_ble_eq_true rfl⟩ (Nat.le_of_ble_eq_true rfl) (ok_X11_finding h1) ?_
    exact A_iret dX11_move_13 (pI_go h)
-- BenchTimesModel.forceOf
theorem dX11_forceOf_0 : di cX11_forceOf 0 (.iconst (-1)) 1 1 := ⟨by decide +kernel, rfl⟩
theorem dX11_forceOf_1 : di cX11_forceOf 1 (.istore_n 3) 1 2 := ⟨by decide +kernel, rfl⟩
theorem dX11_forceOf_2 : di cX11_forceOf 2 (.iconst 0) 1 3 := ⟨by decide +kernel, rfl⟩
theorem dX11_forceOf_3 : di cX11_forceOf 3 (.istore 4) 2 5 := ⟨by decide +kernel, rfl⟩
theorem dX11_forceOf_5 : di cX11_forceOf 5 (.iload 4) 2 7 := ⟨by decide +kernel, rfl⟩
theorem dX11_forceOf_7 : di cX11_forceOf 7 (.aload_n 0) 1 8 := ⟨by decide +kernel, rfl⟩
theorem dX11_forceOf_8 : di cX11_forceOf 8 (.getfield 173) 3 11 := ⟨by decide +kernel, rfl⟩
theorem dX11_forceOf_11 : dj cX11_forceOf 11 (.if_icmp .ge) 14 49 := ⟨38, by decide +kernel, rfl, rfl⟩
theorem dX11_forceOf_14 : di cX11_forceOf 14 (.aload_n 0) 1 15 := ⟨by decide +kernel, rfl⟩
theorem dX11_forceOf_15 : di cX11_forceOf 15 (.getfield 51) 3 18 := ⟨by decide +kernel, rfl⟩
theorem dX11_forceOf_18 : di cX11_forceOf 18 (.iload 4) 2 20 := ⟨by decide +kernel, rfl⟩
theorem dX11_forceOf_20 : di cX11_forceOf 20 (.iaload) 1 21 := ⟨by decide +kernel, rfl⟩
theorem dX11_forceOf_21 : di cX11_forceOf 21 (.iload_n 1) 1 22 := ⟨by decide +kernel, rfl⟩
theorem dX11_forceOf_22 : dj cX11_forceOf 22 (.if_icmp .ne) 25 41 := ⟨19, by decide +kernel, rfl, rfl⟩
theorem dX11_forceOf_25 : di cX11_forceOf 25 (.aload_n 0) 1 26 := ⟨by decide +kernel, rfl⟩
theorem dX11_forceOf_26 : di cX11_forceOf 26 (.getfield 54) 3 29 := ⟨by decide +kernel, rfl⟩
theorem dX11_forceOf_29 : di cX11_forceOf 29 (.iload 4) 2 31 := ⟨by decide +kernel, rfl⟩
theorem dX11_forceOf_31 : di cX11_forceOf 31 (.iaload) 1 32 := ⟨by decide +kernel, rfl⟩
theorem dX11_forceOf_32 : di cX11_forceOf 32 (.iload_n 2) 1 33 := ⟨by decide +kernel, rfl⟩
theorem dX11_forceOf_33 : dj cX11_forceOf 33 (.if_icmp .gt) 36 41 := ⟨8, by decide +kernel, rfl, rfl⟩
theorem dX11_forceOf_36 : di cX11_forceOf 36 (.iload 4) 2 38 := ⟨by decide +kernel, rfl⟩
theorem dX11_forceOf_38 : dj cX11_forceOf 38 .goto 41 42 := ⟨4, by decide +kernel, rfl, rfl⟩
theorem dX11_forceOf_41 : di cX11_forceOf 41 (.iload_n 3) 1 42 := ⟨by decide +kernel, rfl⟩
theorem dX11_forceOf_42 : di cX11_forceOf 42 (.istore_n 3) 1 43 := ⟨by decide +kernel, rfl⟩
theorem dX11_forceOf_43 : di cX11_forceOf 43 (.iinc 4 1) 3 46 := ⟨by decide +kernel, rfl⟩
theorem dX11_forceOf_46 : dj cX11_forceOf 46 .goto 49 5 := ⟨-41, by decide +kernel, rfl, rfl⟩
theorem dX11_forceOf_49 : di cX11_forceOf 49 (.iload_n 3) 1 50 := ⟨by decide +kernel, rfl⟩
theorem dX11_forceOf_50 : di cX11_forceOf 50 (.ireturn) 1 51 := ⟨by decide +kernel, rfl⟩
def f_X11_forceOf_L5 (v1 : Int32) (v2 : Int32) : Nat → Int32 → Int32 → Mem → (Int32 → Int32 → Mem → Option Ret) → Option Ret
  | 0, _, _, _, _ => none
  | k5 + 1, v3, v4, M, K5 => if (M.1 11 17) ≤ v4 then (K5 v3 v4 M) else (gV v4 40 (jn (α := Int32 → Option Ret) (fun (z2 : Int32) => f_X11_forceOf_L5 v1 v2 k5 z2 (v4 + (1 : Int32)) M K5) (fun J1 => if (M.1 77 v4.toNatClampNeg) = v1 then (gV v4 40 (if v2 < (M.1 78 v4.toNatClampNeg) then (J1 v3) else (J1 v4))) else (J1 v3))))
set_option maxRecDepth 100000 in
theorem f_X11_forceOf_L5_ok {l : Launch} {g : Cx} (v1 : Int32) (v2 : Int32)  {r : Int32} {Mr : Mem} : ∀ (k : Nat) (v3 : Int32) (v4 : Int32) (M : Mem) (K5 : Int32 → Int32 → Mem → Option Ret), f_X11_forceOf_L5 v1 v2 k v3 v4 M K5 = some (r, Mr) → (∀ (v3 : Int32) (v4 : Int32) (M : Mem), K5 v3 v4 M = some (r, Mr) → AT l g RX11 cX11_forceOf 5 (some .int) (rmM 0 0) (PI r Mr) 49 [some (.ref (g.1 11)), some (.int v1), some (.int v2), some (.int v3), some (.int v4)] [] M) → AT l g RX11 cX11_forceOf 5 (some .int) (rmM 0 0) (PI r Mr) 5 [some (.ref (g.1 11)), some (.int v1), some (.int v2), some (.int v3), some (.int v4)] [] M
  | 0, v3, v4, M, K5, h, hK5 => by cases h
  | k5 + 1, v3, v4, M, K5, h, hK5 => by
    have ih5 := f_X11_forceOf_L5_ok (l := l) (g := g) v1 v2 (r := r) (Mr := Mr) k5
    rw [f_X11_forceOf_L5] at h
    refine A_iload dX11_forceOf_5 rfl ?_
    refine A_aload_n dX11_forceOf_7 rfl ?_
    refine A_getf dX11_forceOf_8 fw_X11_173 ob11 rfl ?_
    refine A_icmp_ge dX11_forceOf_11 (fun hc => ?_) (fun hc => ?_)
    · have h := gT_go hc h
      exact A_le (lvLe_s (lvLe_s (lvLe_s (lvLe_s (lvLe_s lvLe_0))))) (hK5 _ _ _ h)
    · have h := gF_go hc h
      refine A_aload_n dX11_forceOf_14 rfl ?_
      refine A_getf dX11_forceOf_15 fw_X11_51 ob11 rfl ?_
      refine A_iload dX11_forceOf_18 rfl ?_
      obtain ⟨hg, h⟩ := gV_go h
      refine A_iald dX11_forceOf_20 ia77 hg ?_
      refine A_iload_n dX11_forceOf_21 rfl ?_
      obtain ⟨J1, hJ1, h⟩ := jn_go h
      have JJ1 : ∀ (z2 : Int32), J1 z2 = some (r, Mr) → AT l g RX11 cX11_forceOf 5 (some .int) (rmM 0 0) (PI r Mr) 42 [some (.ref (g.1 11)), some (.int v1), some (.int v2), some (.int v3), some (.int v4)] [.int z2] M := by
        intro z2 h
        rw [hJ1] at h
        refine A_istoren3 dX11_forceOf_42 (by decide) rfl ?_
        refine A_iinc4 (d := 1) dX11_forceOf_43 (by decide) (by decide) rfl ?_
        refine A_goto dX11_forceOf_46 ?_
        exact A_le (lvLe_s (lvLe_s (lvLe_s (lvLe_s (lvLe_s lvLe_0))))) (ih5 _ _ _ K5 h hK5)
      refine A_icmp_ne dX11_forceOf_22 (fun hc => ?_) (fun hc => ?_)
      · have h := gF_go hc h
        refine A_iload_n dX11_forceOf_41 rfl ?_
        exact A_le (lvLe_s (lvLe_s (lvLe_s (lvLe_s (lvLe_s lvLe_0))))) (JJ1 _ h)
      · have h := gT_go hc h
        refine A_aload_n dX11_forceOf_25 rfl ?_
        refine A_getf dX11_forceOf_26 fw_X11_54 ob11 rfl ?_
        refine A_iload dX11_forceOf_29 rfl ?_
        obtain ⟨hg, h⟩ := gV_go h
        refine A_iald dX11_forceOf_31 ia78 hg ?_
        refine A_iload_n dX11_forceOf_32 rfl ?_
        refine A_icmp_gt dX11_forceOf_33 (fun hc => ?_) (fun hc => ?_)
        · have h := gT_go hc h
          refine A_iload_n dX11_forceOf_41 rfl ?_
          exact A_le (lvLe_s (lvLe_s (lvLe_s (lvLe_s (lvLe_s lvLe_0))))) (JJ1 _ h)
        · have h := gF_go hc h
          refine A_iload dX11_forceOf_36 rfl ?_
          refine A_goto dX11_forceOf_38 ?_
          exact A_le (lvLe_s (lvLe_s (lvLe_s (lvLe_s (lvLe_s lvLe_0))))) (JJ1 _ h)
def f_X11_forceOf (v1 : Int32) (v2 : Int32) (M : Mem) : Option Ret := f_X11_forceOf_L5 v1 v2 FU (-1 : Int32) (0 : Int32) M (fun w3 w4 M5 => some (w3, M5))
set_option maxRecDepth 100000 in
theorem ok_X11_forceOf {l : Launch} {g : Cx} {v1 : Int32} {v2 : Int32} {M : Mem} {r : Int32} {Mr : Mem} (h : f_X11_forceOf v1 v2 M = some (r, Mr)) : CT l g yX11_forceOf cX11_forceOf 5 (some .int) 0 0 [.ref (g.1 11), .int v1, .int v2] M (PI r Mr) := by
  refine CT_of (lv := [some (.ref (g.1 11)), some (.int v1), some (.int v2), none, none]) (by decide) rfl (Nat.le_of_ble_eq_true rfl) ?_
  unfold f_X11_forceOf at h
  refine A_iconst (v := -1) dX11_forceOf_0 (by decide) ?_
  refine A_istoren3 dX11_forceOf_1 (by decide) rfl ?_
  refine A_iconst (v := 0) dX11_forceOf_2 (by decide) ?_
  refine A_istore4 dX11_forceOf_3 (by decide) rfl ?_
  refine f_X11_forceOf_L5_ok _ _ FU _ _ _ _ h (fun w3 w4 M5 h => ?_)
  refine A_iload_n dX11_forceOf_49 rfl ?_
  exact A_iret dX11_forceOf_50 (pI_go h)
-- BenchTimesModel.rate
theorem dX11_rate_0 : di cX11_rate 0 (.aload_n 0) 1 1 := ⟨by decide +kernel, rfl⟩
theorem dX11_rate_1 : di cX11_rate 1 (.iload_n 1) 1 2 := ⟨by decide +kernel, rfl⟩
theorem dX11_rate_2 : di cX11_rate 2 (.invokevirtual 176) 3 5 := ⟨by decide +kernel, rfl⟩
theorem dX11_rate_5 : dj cX11_rate 5 (.ifCond .eq) 8 15 := ⟨10, by decide +kernel, rfl, rfl⟩
theorem dX11_rate_8 : di cX11_rate 8 (.iload_n 2) 1 9 := ⟨by decide +kernel, rfl⟩
theorem dX11_rate_9 : di cX11_rate 9 (.invokestatic 192) 3 12 := ⟨by decide +kernel, rfl⟩
theorem dX11_rate_12 : dj cX11_rate 12 (.ifCond .ne) 15 21 := ⟨9, by decide +kernel, rfl, rfl⟩
theorem dX11_rate_15 : di cX11_rate 15 (.aload_n 0) 1 16 := ⟨by decide +kernel, rfl⟩
theorem dX11_rate_16 : di cX11_rate 16 (.iconst 1) 1 17 := ⟨by decide +kernel, rfl⟩
theorem dX11_rate_17 : di cX11_rate 17 (.invokevirtual 137) 3 20 := ⟨by decide +kernel, rfl⟩
theorem dX11_rate_20 : di cX11_rate 20 (.ireturn) 1 21 := ⟨by decide +kernel, rfl⟩
theorem dX11_rate_21 : di cX11_rate 21 (.aload_n 0) 1 22 := ⟨by decide +kernel, rfl⟩
theorem dX11_rate_22 : di cX11_rate 22 (.iload_n 1) 1 23 := ⟨by decide +kernel, rfl⟩
theorem dX11_rate_23 : di cX11_rate 23 (.iload_n 2) 1 24 := ⟨by decide +kernel, rfl⟩
theorem dX11_rate_24 : di cX11_rate 24 (.invokevirtual 195) 3 27 := ⟨by decide +kernel, rfl⟩
theorem dX11_rate_27 : di cX11_rate 27 (.istore_n 3) 1 28 := ⟨by decide +kernel, rfl⟩
theorem dX11_rate_28 : di cX11_rate 28 (.iload_n 3) 1 29 := ⟨by decide +kernel, rfl⟩
theorem dX11_rate_29 : dj cX11_rate 29 (.ifCond .ge) 32 40 := ⟨11, by decide +kernel, rfl, rfl⟩
theorem dX11_rate_32 : di cX11_rate 32 (.aload_n 0) 1 33 := ⟨by decide +kernel, rfl⟩
theorem dX11_rate_33 : di cX11_rate 33 (.iconst 2) 1 34 := ⟨by decide +kernel, rfl⟩
theorem dX11_rate_34 : di cX11_rate 34 (.invokevirtual 137) 3 37 := ⟨by decide +kernel, rfl⟩
theorem dX11_rate_37 : dj cX11_rate 37 .goto 40 45 := ⟨8, by decide +kernel, rfl, rfl⟩
theorem dX11_rate_40 : di cX11_rate 40 (.aload_n 0) 1 41 := ⟨by decide +kernel, rfl⟩
theorem dX11_rate_41 : di cX11_rate 41 (.iload_n 3) 1 42 := ⟨by decide +kernel, rfl⟩
theorem dX11_rate_42 : di cX11_rate 42 (.invokevirtual 182) 3 45 := ⟨by decide +kernel, rfl⟩
theorem dX11_rate_45 : di cX11_rate 45 (.ireturn) 1 46 := ⟨by decide +kernel, rfl⟩
def f_X11_rate (v1 : Int32) (v2 : Int32) (M : Mem) : Option Ret := bE (f_X11_isJob v1 M) (fun r2 M1 => if r2 = 0 then (bE (f_X11_finding (1 : Int32) M1) (fun r4 M3 => some (r4, M3))) else (bE (f_X11_isWeek v2 M1) (fun r6 M5 => if r6 = 0 then (bE (f_X11_finding (1 : Int32) M5) (fun r17 M16 => some (r17, M16))) else (bE (f_X11_forceOf v1 v2 M5) (fun r8 M7 => jn (α := Int32 → Mem → Option Ret) (fun (z10 : Int32) (M11 : Mem) => some (z10, M11)) (fun J9 => if 0 ≤ r8 then (bE (f_X11_sumOf r8 M7) (fun r13 M12 => J9 r13 M12)) else (bE (f_X11_finding (2 : Int32) M7) (fun r15 M14 => J9 r15 M14))))))))
set_option maxRecDepth 100000 in
theorem ok_X11_rate {l : Launch} {g : Cx} {v1 : Int32} {v2 : Int32} {M : Mem} {r : Int32} {Mr : Mem} (h : f_X11_rate v1 v2 M = some (r, Mr)) : CT l g yX11_rate cX11_rate 4 (some .int) 2 42 [.ref (g.1 11), .int v1, .int v2] M (PI r Mr) := by
  refine CT_of (lv := [some (.ref (g.1 11)), some (.int v1), some (.int v2), none]) (by decide) rfl (Nat.le_of_ble_eq_true rfl) ?_
  unfold f_X11_rate at h
  refine A_aload_n dX11_rate_0 rfl ?_
  refine A_iload_n dX11_rate_1 rfl ?_
  obtain ⟨r2, M1, h1, h⟩ := bE_go h
  refine A_cVi1 dX11_rate_2 ml_X11_176 mb_X11_isJob mi_X11_isJob ob11 rfl rfl ⟨Nat.le_of_ble_eq_true rfl, Nat.le_of_ble_eq_true rfl⟩ (Nat.le_of_ble_eq_true rfl) (ok_X11_isJob h1) ?_
  refine A_if_eq dX11_rate_5 (fun hc => ?_) (fun hc => ?_)
  · have h := gT_go hc h
    refine A_aload_n dX11_rate_15 rfl ?_
    refine A_iconst (v := 1) dX11_rate_16 (by decide) ?_
    obtain ⟨r4, M3, h1, h⟩ := bE_go h
    refine A_cVi1 dX11_rate_17 ml_X11_137 mb_X11_finding mi_X11_finding ob11 rfl rfl ⟨Nat.le_of_ble_eq_true rfl, Nat.le_of_ble_eq_true rfl⟩ (Nat.le_of_ble_eq_true rfl) (ok_X11_finding h1) ?_
    exact A_iret dX11_rate_20 (pI_go h)
  · have h := gF_go hc h
    refine A_iload_n dX11_rate_8 rfl ?_
    obtain ⟨r6, M5, h1, h⟩ := bE_go h
    refine A_cSi1 dX11_rate_9 ml_X11_192 mb_X11_isWeek ms_X11_isWeek ⟨Nat.le_of_ble_eq_true rfl, Nat.le_of_ble_eq_true rfl⟩ (Nat.le_of_ble_eq_true rfl) (ok_X11_isWeek h1) ?_
    refine A_if_ne dX11_rate_12 (fun hc => ?_) (fun hc => ?_)
    · have h := gF_go hc h
      refine A_aload_n dX11_rate_21 rfl ?_
      refine A_iload_n dX11_rate_22 rfl ?_
      refine A_iload_n dX11_rate_23 rfl ?_
      obtain ⟨r8, M7, h1, h⟩ := bE_go h
      refine A_cVi2 dX11_rate_24 ml_X11_195 mb_X11_forceOf mi_X11_forceOf ob11 rfl rfl ⟨Nat.le_of_ble_eq_true rfl, Nat.le_of_ble_eq_true rfl⟩ (Nat.le_of_ble_eq_true rfl) (ok_X11_forceOf h1) ?_
      refine A_istoren3 dX11_rate_27 (by decide) rfl ?_
      refine A_iload_n dX11_rate_28 rfl ?_
      obtain ⟨J9, hJ9, h⟩ := jn_go h
      have JJ9 : ∀ (z10 : Int32) (M11 : Mem), J9 z10 M11 = some (r, Mr) → AT l g RX11 cX11_rate 4 (some .int) (rmM 2 42) (PI r Mr) 45 [some (.ref (g.1 11)), some (.int v1), some (.int v2), some (.int r8)] [.int z10] M11 := by
        intro z10 M11 h
        rw [hJ9] at h
        exact A_iret dX11_rate_45 (pI_go h)
      refine A_if_ge dX11_rate_29 (fun hc => ?_) (fun hc => ?_)
      · have h := gT_go hc h
        refine A_aload_n dX11_rate_40 rfl ?_
        refine A_iload_n dX11_rate_41 rfl ?_
        obtain ⟨r13, M12, h1, h⟩ := bE_go h
        refine A_cVi1 dX11_rate_42 ml_X11_182 mb_X11_sumOf mi_X11_sumOf ob11 rfl rfl ⟨Nat.le_of_ble_eq_true rfl, Nat.le_of_ble_eq_true rfl⟩ (Nat.le_of_ble_eq_true rfl) (ok_X11_sumOf h1) ?_
        exact A_le (lvLe_s (lvLe_s (lvLe_s (lvLe_s lvLe_0)))) (JJ9 _ _ h)
      · have h := gF_go hc h
        refine A_aload_n dX11_rate_32 rfl ?_
        refine A_iconst (v := 2) dX11_rate_33 (by decide) ?_
        obtain ⟨r15, M14, h1, h⟩ := bE_go h
        refine A_cVi1 dX11_rate_34 ml_X11_137 mb_X11_finding mi_X11_finding ob11 rfl rfl ⟨Nat.le_of_ble_eq_true rfl, Nat.le_of_ble_eq_true rfl⟩ (Nat.le_of_ble_eq_true rfl) (ok_X11_finding h1) ?_
        refine A_goto dX11_rate_37 ?_
        exact A_le (lvLe_s (lvLe_s (lvLe_s (lvLe_s lvLe_0)))) (JJ9 _ _ h)
    · have h := gT_go hc h
      refine A_aload_n dX11_rate_15 rfl ?_
      refine A_iconst (v := 1) dX11_rate_16 (by decide) ?_
      obtain ⟨r17, M16, h1, h⟩ := bE_go h
      refine A_cVi1 dX11_rate_17 ml_X11_137 mb_X11_finding mi_X11_finding ob11 rfl rfl ⟨Nat.le_of_ble_eq_true rfl, Nat.le_of_ble_eq_true rfl⟩ (Nat.le_of_ble_eq_true rfl) (ok_X11_finding h1) ?_
      exact A_iret dX11_rate_20 (pI_go h)
-- BenchTimesModel.worth
theorem dX11_worth_0 : di cX11_worth 0 (.aload_n 0) 1 1 := ⟨by decide +kernel, rfl⟩
theorem dX11_worth_1 : di cX11_worth 1 (.iload_n 1) 1 2 := ⟨by decide +kernel, rfl⟩
theorem dX11_worth_2 : di cX11_worth 2 (.invokevirtual 176) 3 5 := ⟨by decide +kernel, rfl⟩
theorem dX11_worth_5 : dj cX11_worth 5 (.ifCond .eq) 8 29 := ⟨24, by decide +kernel, rfl, rfl⟩
theorem dX11_worth_8 : di cX11_worth 8 (.iload_n 2) 1 9 := ⟨by decide +kernel, rfl⟩
theorem dX11_worth_9 : di cX11_worth 9 (.invokestatic 192) 3 12 := ⟨by decide +kernel, rfl⟩
theorem dX11_worth_12 : dj cX11_worth 12 (.ifCond .eq) 15 29 := ⟨17, by decide +kernel, rfl, rfl⟩
theorem dX11_worth_15 : di cX11_worth 15 (.iload_n 3) 1 16 := ⟨by decide +kernel, rfl⟩
theorem dX11_worth_16 : dj cX11_worth 16 (.ifCond .lt) 19 29 := ⟨13, by decide +kernel, rfl, rfl⟩
theorem dX11_worth_19 : di cX11_worth 19 (.iload_n 3) 1 20 := ⟨by decide +kernel, rfl⟩
theorem dX11_worth_20 : di cX11_worth 20 (.aload_n 0) 1 21 := ⟨by decide +kernel, rfl⟩
theorem dX11_worth_21 : di cX11_worth 21 (.getfield 38) 3 24 := ⟨by decide +kernel, rfl⟩
theorem dX11_worth_24 : di cX11_worth 24 (.iload_n 1) 1 25 := ⟨by decide +kernel, rfl⟩
theorem dX11_worth_25 : di cX11_worth 25 (.iaload) 1 26 := ⟨by decide +kernel, rfl⟩
theorem dX11_worth_26 : dj cX11_worth 26 (.if_icmp .lt) 29 35 := ⟨9, by decide +kernel, rfl, rfl⟩
theorem dX11_worth_29 : di cX11_worth 29 (.aload_n 0) 1 30 := ⟨by decide +kernel, rfl⟩
theorem dX11_worth_30 : di cX11_worth 30 (.iconst 1) 1 31 := ⟨by decide +kernel, rfl⟩
theorem dX11_worth_31 : di cX11_worth 31 (.invokevirtual 137) 3 34 := ⟨by decide +kernel, rfl⟩
theorem dX11_worth_34 : di cX11_worth 34 (.ireturn) 1 35 := ⟨by decide +kernel, rfl⟩
theorem dX11_worth_35 : di cX11_worth 35 (.aload_n 0) 1 36 := ⟨by decide +kernel, rfl⟩
theorem dX11_worth_36 : di cX11_worth 36 (.iload_n 1) 1 37 := ⟨by decide +kernel, rfl⟩
theorem dX11_worth_37 : di cX11_worth 37 (.iload_n 2) 1 38 := ⟨by decide +kernel, rfl⟩
theorem dX11_worth_38 : di cX11_worth 38 (.invokevirtual 195) 3 41 := ⟨by decide +kernel, rfl⟩
theorem dX11_worth_41 : di cX11_worth 41 (.istore 4) 2 43 := ⟨by decide +kernel, rfl⟩
theorem dX11_worth_43 : di cX11_worth 43 (.iload 4) 2 45 := ⟨by decide +kernel, rfl⟩
theorem dX11_worth_45 : dj cX11_worth 45 (.ifCond .ge) 48 56 := ⟨11, by decide +kernel, rfl, rfl⟩
theorem dX11_worth_48 : di cX11_worth 48 (.aload_n 0) 1 49 := ⟨by decide +kernel, rfl⟩
theorem dX11_worth_49 : di cX11_worth 49 (.iconst 2) 1 50 := ⟨by decide +kernel, rfl⟩
theorem dX11_worth_50 : di cX11_worth 50 (.invokevirtual 137) 3 53 := ⟨by decide +kernel, rfl⟩
theorem dX11_worth_53 : dj cX11_worth 53 .goto 56 68 := ⟨15, by decide +kernel, rfl, rfl⟩
theorem dX11_worth_56 : di cX11_worth 56 (.aload_n 0) 1 57 := ⟨by decide +kernel, rfl⟩
theorem dX11_worth_57 : di cX11_worth 57 (.getfield 57) 3 60 := ⟨by decide +kernel, rfl⟩
theorem dX11_worth_60 : di cX11_worth 60 (.bipush 6) 2 62 := ⟨by decide +kernel, rfl⟩
theorem dX11_worth_62 : di cX11_worth 62 (.iload 4) 2 64 := ⟨by decide +kernel, rfl⟩
theorem dX11_worth_64 : di cX11_worth 64 (.imul) 1 65 := ⟨by decide +kernel, rfl⟩
theorem dX11_worth_65 : di cX11_worth 65 (.iload_n 3) 1 66 := ⟨by decide +kernel, rfl⟩
theorem dX11_worth_66 : di cX11_worth 66 (.iadd) 1 67 := ⟨by decide +kernel, rfl⟩
theorem dX11_worth_67 : di cX11_worth 67 (.iaload) 1 68 := ⟨by decide +kernel, rfl⟩
theorem dX11_worth_68 : di cX11_worth 68 (.ireturn) 1 69 := ⟨by decide +kernel, rfl⟩
def f_X11_worth (v1 : Int32) (v2 : Int32) (v3 : Int32) (M : Mem) : Option Ret := bE (f_X11_isJob v1 M) (fun r2 M1 => if r2 = 0 then (bE (f_X11_finding (1 : Int32) M1) (fun r4 M3 => some (r4, M3))) else (bE (f_X11_isWeek v2 M1) (fun r6 M5 => if r6 = 0 then (bE (f_X11_finding (1 : Int32) M5) (fun r8 M7 => some (r8, M7))) else (if v3 < 0 then (bE (f_X11_finding (1 : Int32) M5) (fun r10 M9 => some (r10, M9))) else (gV v1 8 (if v3 < (M5.1 73 v1.toNatClampNeg) then (bE (f_X11_forceOf v1 v2 M5) (fun r12 M11 => jn (α := Int32 → Mem → Option Ret) (fun (z14 : Int32) (M15 : Mem) => some (z14, M15)) (fun J13 => if 0 ≤ r12 then (gV (((6 : Int32) * r12) + v3) 240 (J13 (M11.1 79 (((6 : Int32) * r12) + v3).toNatClampNeg) M11)) else (bE (f_X11_finding (2 : Int32) M11) (fun r17 M16 => J13 r17 M16))))) else (bE (f_X11_finding (1 : Int32) M5) (fun r19 M18 => some (r19, M18)))))))))
set_option maxRecDepth 100000 in
theorem ok_X11_worth {l : Launch} {g : Cx} {v1 : Int32} {v2 : Int32} {v3 : Int32} {M : Mem} {r : Int32} {Mr : Mem} (h : f_X11_worth v1 v2 v3 M = some (r, Mr)) : CT l g yX11_worth cX11_worth 5 (some .int) 2 42 [.ref (g.1 11), .int v1, .int v2, .int v3] M (PI r Mr) := by
  refine CT_of (lv := [some (.ref (g.1 11)), some (.int v1), some (.int v2), some (.int v3), none]) (by decide) rfl (Nat.le_of_ble_eq_true rfl) ?_
  unfold f_X11_worth at h
  refine A_aload_n dX11_worth_0 rfl ?_
  refine A_iload_n dX11_worth_1 rfl ?_
  obtain ⟨r2, M1, h1, h⟩ := bE_go h
  refine A_cVi1 dX11_worth_2 ml_X11_176 mb_X11_isJob mi_X11_isJob ob11 rfl rfl ⟨Nat.le_of_ble_eq_true rfl, Nat.le_of_ble_eq_true rfl⟩ (Nat.le_of_ble_eq_true rfl) (ok_X11_isJob h1) ?_
  refine A_if_eq dX11_worth_5 (fun hc => ?_) (fun hc => ?_)
  · have h := gT_go hc h
    refine A_aload_n dX11_worth_29 rfl ?_
    refine A_iconst (v := 1) dX11_worth_30 (by decide) ?_
    obtain ⟨r4, M3, h1, h⟩ := bE_go h
    refine A_cVi1 dX11_worth_31 ml_X11_137 mb_X11_finding mi_X11_finding ob11 rfl rfl ⟨Nat.le_of_ble_eq_true rfl, Nat.le_of_ble_eq_true rfl⟩ (Nat.le_of_ble_eq_true rfl) (ok_X11_finding h1) ?_
    exact A_iret dX11_worth_34 (pI_go h)
  · have h := gF_go hc h
    refine A_iload_n dX11_worth_8 rfl ?_
    obtain ⟨r6, M5, h1, h⟩ := bE_go h
    refine A_cSi1 dX11_worth_9 ml_X11_192 mb_X11_isWeek ms_X11_isWeek ⟨Nat.le_of_ble_eq_true rfl, Nat.le_of_ble_eq_true rfl⟩ (Nat.le_of_ble_eq_true rfl) (ok_X11_isWeek h1) ?_
    refine A_if_eq dX11_worth_12 (fun hc => ?_) (fun hc => ?_)
    · have h := gT_go hc h
      refine A_aload_n dX11_worth_29 rfl ?_
      refine A_iconst (v := 1) dX11_worth_30 (by decide) ?_
      obtain ⟨r8, M7, h1, h⟩ := bE_go h
      refine A_cVi1 dX11_worth_31 ml_X11_137 mb_X11_finding mi_X11_finding ob11 rfl rfl ⟨Nat.le_of_ble_eq_true rfl, Nat.le_of_ble_eq_true rfl⟩ (Nat.le_of_ble_eq_true rfl) (ok_X11_finding h1) ?_
      exact A_iret dX11_worth_34 (pI_go h)
    · have h := gF_go hc h
      refine A_iload_n dX11_worth_15 rfl ?_
      refine A_if_lt dX11_worth_16 (fun hc => ?_) (fun hc => ?_)
      · have h := gT_go hc h
        refine A_aload_n dX11_worth_29 rfl ?_
        refine A_iconst (v := 1) dX11_worth_30 (by decide) ?_
        obtain ⟨r10, M9, h1, h⟩ := bE_go h
        refine A_cVi1 dX11_worth_31 ml_X11_137 mb_X11_finding mi_X11_finding ob11 rfl rfl ⟨Nat.le_of_ble_eq_true rfl, Nat.le_of_ble_eq_true rfl⟩ (Nat.le_of_ble_eq_true rfl) (ok_X11_finding h1) ?_
        exact A_iret dX11_worth_34 (pI_go h)
      · have h := gF_go hc h
        refine A_iload_n dX11_worth_19 rfl ?_
        refine A_aload_n dX11_worth_20 rfl ?_
        refine A_getf dX11_worth_21 fw_X11_38 ob11 rfl ?_
        refine A_iload_n dX11_worth_24 rfl ?_
        obtain ⟨hg, h⟩ := gV_go h
        refine A_iald dX11_worth_25 ia73 hg ?_
        refine A_icmp_lt dX11_worth_26 (fun hc => ?_) (fun hc => ?_)
        · have h := gT_go hc h
          refine A_aload_n dX11_worth_35 rfl ?_
          refine A_iload_n dX11_worth_36 rfl ?_
          refine A_iload_n dX11_worth_37 rfl ?_
          obtain ⟨r12, M11, h1, h⟩ := bE_go h
          refine A_cVi2 dX11_worth_38 ml_X11_195 mb_X11_forceOf mi_X11_forceOf ob11 rfl rfl ⟨Nat.le_of_ble_eq_true rfl, Nat.le_of_ble_eq_true rfl⟩ (Nat.le_of_ble_eq_true rfl) (ok_X11_forceOf h1) ?_
          refine A_istore4 dX11_worth_41 (by decide) rfl ?_
          refine A_iload dX11_worth_43 rfl ?_
          obtain ⟨J13, hJ13, h⟩ := jn_go h
          have JJ13 : ∀ (z14 : Int32) (M15 : Mem), J13 z14 M15 = some (r, Mr) → AT l g RX11 cX11_worth 5 (some .int) (rmM 2 42) (PI r Mr) 68 [some (.ref (g.1 11)), some (.int v1), some (.int v2), some (.int v3), some (.int r12)] [.int z14] M15 := by
            intro z14 M15 h
            rw [hJ13] at h
            exact A_iret dX11_worth_68 (pI_go h)
          refine A_if_ge dX11_worth_45 (fun hc => ?_) (fun hc => ?_)
          · have h := gT_go hc h
            refine A_aload_n dX11_worth_56 rfl ?_
            refine A_getf dX11_worth_57 fw_X11_57 ob11 rfl ?_
            refine A_bipush (v := 6) dX11_worth_60 (by decide) ?_
            refine A_iload dX11_worth_62 rfl ?_
            refine A_imul dX11_worth_64 ?_
            refine A_iload_n dX11_worth_65 rfl ?_
            refine A_iadd dX11_worth_66 ?_
            obtain ⟨hg, h⟩ := gV_go h
            refine A_iald dX11_worth_67 ia79 hg ?_
            exact A_le (lvLe_s (lvLe_s (lvLe_s (lvLe_s (lvLe_s lvLe_0))))) (JJ13 _ _ h)
          · have h := gF_go hc h
            refine A_aload_n dX11_worth_48 rfl ?_
            refine A_iconst (v := 2) dX11_worth_49 (by decide) ?_
            obtain ⟨r17, M16, h1, h⟩ := bE_go h
            refine A_cVi1 dX11_worth_50 ml_X11_137 mb_X11_finding mi_X11_finding ob11 rfl rfl ⟨Nat.le_of_ble_eq_true rfl, Nat.le_of_ble_eq_true rfl⟩ (Nat.le_of_ble_eq_true rfl) (ok_X11_finding h1) ?_
            refine A_goto dX11_worth_53 ?_
            exact A_le (lvLe_s (lvLe_s (lvLe_s (lvLe_s (lvLe_s lvLe_0))))) (JJ13 _ _ h)
        · have h := gF_go hc h
          refine A_aload_n dX11_worth_29 rfl ?_
          refine A_iconst (v := 1) dX11_worth_30 (by decide) ?_
          obtain ⟨r19, M18, h1, h⟩ := bE_go h
          refine A_cVi1 dX11_worth_31 ml_X11_137 mb_X11_finding mi_X11_finding ob11 rfl rfl ⟨Nat.le_of_ble_eq_true rfl, Nat.le_of_ble_eq_true rfl⟩ (Nat.le_of_ble_eq_true rfl) (ok_X11_finding h1) ?_
          exact A_iret dX11_worth_34 (pI_go h)
-- BenchTimesModel.week
theorem dX11_week_0 : di cX11_week 0 (.iload_n 1) 1 1 := ⟨by decide +kernel, rfl⟩
theorem dX11_week_1 : di cX11_week 1 (.aload_n 0) 1 2 := ⟨by decide +kernel, rfl⟩
theorem dX11_week_2 : di cX11_week 2 (.getfield 185) 3 5 := ⟨by decide +kernel, rfl⟩
theorem dX11_week_5 : di cX11_week 5 (.sipush 500) 3 8 := ⟨by decide +kernel, rfl⟩
theorem dX11_week_8 : di cX11_week 8 (.invokestatic 133) 3 11 := ⟨by decide +kernel, rfl⟩
theorem dX11_week_11 : dj cX11_week 11 (.ifCond .ne) 14 20 := ⟨9, by decide +kernel, rfl, rfl⟩
theorem dX11_week_14 : di cX11_week 14 (.aload_n 0) 1 15 := ⟨by decide +kernel, rfl⟩
theorem dX11_week_15 : di cX11_week 15 (.iconst 1) 1 16 := ⟨by decide +kernel, rfl⟩
theorem dX11_week_16 : di cX11_week 16 (.invokevirtual 137) 3 19 := ⟨by decide +kernel, rfl⟩
theorem dX11_week_19 : di cX11_week 19 (.ireturn) 1 20 := ⟨by decide +kernel, rfl⟩
theorem dX11_week_20 : di cX11_week 20 (.aload_n 0) 1 21 := ⟨by decide +kernel, rfl⟩
theorem dX11_week_21 : di cX11_week 21 (.getfield 185) 3 24 := ⟨by decide +kernel, rfl⟩
theorem dX11_week_24 : di cX11_week 24 (.istore_n 2) 1 25 := ⟨by decide +kernel, rfl⟩
theorem dX11_week_25 : di cX11_week 25 (.aload_n 0) 1 26 := ⟨by decide +kernel, rfl⟩
theorem dX11_week_26 : di cX11_week 26 (.iload_n 1) 1 27 := ⟨by decide +kernel, rfl⟩
theorem dX11_week_27 : di cX11_week 27 (.putfield 185) 3 30 := ⟨by decide +kernel, rfl⟩
theorem dX11_week_30 : di cX11_week 30 (.aload_n 0) 1 31 := ⟨by decide +kernel, rfl⟩
theorem dX11_week_31 : di cX11_week 31 (.getfield 185) 3 34 := ⟨by decide +kernel, rfl⟩
theorem dX11_week_34 : di cX11_week 34 (.iload_n 2) 1 35 := ⟨by decide +kernel, rfl⟩
theorem dX11_week_35 : di cX11_week 35 (.isub) 1 36 := ⟨by decide +kernel, rfl⟩
theorem dX11_week_36 : di cX11_week 36 (.ireturn) 1 37 := ⟨by decide +kernel, rfl⟩
def f_X11_week (v1 : Int32) (M : Mem) : Option Ret := bE (f_X11_isIn v1 (M.1 11 21) (500 : Int32) M) (fun r2 M1 => if r2 = 0 then (bE (f_X11_finding (1 : Int32) M1) (fun r6 M5 => some (r6, M5))) else (bI (M1.1 11 21) (fun x3 => bM (up2 M1 11 21 v1) (fun M4 => some ((M4.1 11 21) - x3, M4)))))
set_option maxRecDepth 100000 in
theorem ok_X11_week {l : Launch} {g : Cx} {v1 : Int32} {M : Mem} {r : Int32} {Mr : Mem} (h : f_X11_week v1 M = some (r, Mr)) : CT l g yX11_week cX11_week 3 (some .int) 1 22 [.ref (g.1 11), .int v1] M (PI r Mr) := by
  refine CT_of (lv := [some (.ref (g.1 11)), some (.int v1), none]) (by decide) rfl (Nat.le_of_ble_eq_true rfl) ?_
  unfold f_X11_week at h
  refine A_iload_n dX11_week_0 rfl ?_
  refine A_aload_n dX11_week_1 rfl ?_
  refine A_getf dX11_week_2 fw_X11_185 ob11 rfl ?_
  refine A_sipush (v := 500) dX11_week_5 (by decide) ?_
  obtain ⟨r2, M1, h1, h⟩ := bE_go h
  refine A_cSi3 dX11_week_8 ml_X11_133 mb_X11_isIn ms_X11_isIn ⟨Nat.le_of_ble_eq_true rfl, Nat.le_of_ble_eq_true rfl⟩ (Nat.le_of_ble_eq_true rfl) (ok_X11_isIn h1) ?_
  refine A_if_ne dX11_week_11 (fun hc => ?_) (fun hc => ?_)
  · have h := gF_go hc h
    refine A_aload_n dX11_week_20 rfl ?_
    refine A_getf dX11_week_21 fw_X11_185 ob11 rfl ?_
    refine A_istoren2 dX11_week_24 (by decide) rfl (bI_go h (G := fun z => AT l g RX11 cX11_week 3 (some .int) (rmM 1 22) (PI r Mr) 25 [some (.ref (g.1 11)), some (.int v1), some (.int z)] [] M1) (fun x3 h => ?_))
    refine A_aload_n dX11_week_25 rfl ?_
    refine A_iload_n dX11_week_26 rfl ?_
    refine A_putf dX11_week_27 pw_X11_185 ob11 pf11_21 (Nat.le_of_ble_eq_true rfl) (bM_go h (fun M4 h => ?_))
    refine A_aload_n dX11_week_30 rfl ?_
    refine A_getf dX11_week_31 fw_X11_185 ob11 rfl ?_
    refine A_iload_n dX11_week_34 rfl ?_
    refine A_isub dX11_week_35 ?_
    exact A_iret dX11_week_36 (pI_go h)
  · have h := gT_go hc h
    refine A_aload_n dX11_week_14 rfl ?_
    refine A_iconst (v := 1) dX11_week_15 (by decide) ?_
    obtain ⟨r6, M5, h1, h⟩ := bE_go h
    refine A_cVi1 dX11_week_16 ml_X11_137 mb_X11_finding mi_X11_finding ob11 rfl rfl ⟨Nat.le_of_ble_eq_true rfl, Nat.le_of_ble_eq_true rfl⟩ (Nat.le_of_ble_eq_true rfl) (ok_X11_finding h1) ?_
    exact A_iret dX11_week_19 (pI_go h)
