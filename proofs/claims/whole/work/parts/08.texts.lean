/-! TEXTS: the five words of the rules, and the JDK's methods that read them -/
section TXT
variable {l : Launch} {g : Cx} {own : String} {cc : ByteArray} {nL : Nat} {ret : Option FieldType} {R : Room} {P : Option Value → Mem → Prop} {pc n : Nat} {lv : List (Option Value)} {st : List Value} {M : Mem}
variable {y : MethodName} {cy : ByteArray} {ny : Nat} {ry : Option FieldType} {fr lo : Nat} {as rest : List Value} {P' : Option Value → Mem → Prop}
theorem A_callVs {idx w : Nat} (hw : w < 5) (hy : "java/lang/String" = y.cls) (hd : di cc pc (.invokevirtual idx) 3 n) (hl0 : Cond.methodLink own idx y ∈ gd) (hb0 : MB y cy ny ry as.length) (hi : MI y)
    (hR : fr + 1 ≤ R.frames ∧ 8 + (ny + 11) + lo ≤ R.locals) (hst : (rest.map fun v => v.category).sum ≤ 8) (hC : CT l g y cy ny ry fr lo (.ref (g.2.2.2.2.1 w) :: as) M P')
    (k : ∀ (v : Option Value) (M' : Mem), P' v M' → AT l g own cc nL ret R P n lv (v.toList ++ rest) M') : AT l g own cc nL ret R P pc lv (as.reverse ++ .ref (g.2.2.2.2.1 w) :: rest) M := fun p e s m args below meth c H locs ls C hP hS hl => by
  obtain ⟨hd, rfl⟩ := hd
  have hts := C.2.2.2.2.2.2.1
  have hG : GoodIn gd (wsV own idx y.cls y (Cond.code y cy ny ry :: gd)) := by
    intro w hw
    unfold wsV at hw
    simp only [List.mem_append, List.mem_cons, List.not_mem_nil, or_false] at hw
    rcases hw with (rfl | rfl | rfl | rfl) | (rfl | hw)
    · exact gd_good hl0
    · exact gd_good hi.1
    · exact gd_good hi.2
    · exact gd_good hb0.1
    · exact gd_good hb0.2.1
    · exact gd_good hw
  have hrc : ∃ cellB : Cell, H[g.2.2.2.2.1 w]? = some cellB ∧ cellB.vm.isStatics = false ∧ s.vm.findClass y.cls = some cellB.cls := hy ▸ vk_recv C.2.2.2.2.2.2.2.2.2.2.2.2.2.1 hw hS
  refine A_core (va_runV (As := as) (rest := rest) (Ts := gd) (C := y.cls) ⟨C.1, C.2.1, C.2.2.2.1, C.2.2.2.2.1, hts⟩ hC (cwV as.length hts hG rfl rfl rfl ⟨rfl, hb0.2.2⟩ hR) ⟨A_blind, hrc, A_pre (as := .ref (g.2.2.2.2.1 w) :: as) C.2.2.2.2.2.2.2.1 C.2.2.2.2.2.2.2.2.1 C.2.2.2.2.2.2.2.2.2 hP hS⟩ rfl rfl hl.1 rfl (lv_room hst) hd ⟨Nat.zero_le _, Nat.zero_le _⟩) hS (fun v M' H1 locs1 h1 h2 h3 => ?_)
  exact k v M' h1 p e s m args below meth c H1 locs1 ls C h2 h3 hl
theorem A_cVs0 {idx w : Nat} {r1 : Int32} {M1 : Mem} (hw : w < 5) (hy : "java/lang/String" = y.cls) (hd : di cc pc (.invokevirtual idx) 3 n) (hl0 : Cond.methodLink own idx y ∈ gd) (hb0 : MB y cy ny ry 0) (hi : MI y) (hR : fr + 1 ≤ R.frames ∧ 8 + (ny + 11) + lo ≤ R.locals) (hst : (rest.map fun v => v.category).sum ≤ 8) (hC : CT l g y cy ny ry fr lo [.ref (g.2.2.2.2.1 w)] M (PI r1 M1)) (k : AT l g own cc nL ret R P n lv (.int r1 :: rest) M1) : AT l g own cc nL ret R P pc lv (.ref (g.2.2.2.2.1 w) :: rest) M := A_callVs (as := []) hw hy hd hl0 hb0 hi hR hst hC (fun v M' e => by obtain ⟨rfl, rfl⟩ := e; exact k)
theorem A_cVs1 {idx w : Nat} {r1 : Int32} {M1 : Mem} {x1 : Value} (hw : w < 5) (hy : "java/lang/String" = y.cls) (hd : di cc pc (.invokevirtual idx) 3 n) (hl0 : Cond.methodLink own idx y ∈ gd) (hb0 : MB y cy ny ry 1) (hi : MI y) (hR : fr + 1 ≤ R.frames ∧ 8 + (ny + 11) + lo ≤ R.locals) (hst : (rest.map fun v => v.category).sum ≤ 8) (hC : CT l g y cy ny ry fr lo [.ref (g.2.2.2.2.1 w), x1] M (PI r1 M1)) (k : AT l g own cc nL ret R P n lv (.int r1 :: rest) M1) : AT l g own cc nL ret R P pc lv (x1 :: .ref (g.2.2.2.2.1 w) :: rest) M := A_callVs (as := [x1]) hw hy hd hl0 hb0 hi hR hst hC (fun v M' e => by obtain ⟨rfl, rfl⟩ := e; exact k)
theorem A_ldcS {idx q : Nat} {tx : String} (hd : di cc pc (.ldc idx) 2 n) (hz : ∀ (A : Nat → Prop) (U : State) (H : Heap), ST g A U H → vk_R own idx tx q U) (k : AT l g own cc nL ret R P n lv (.ref q :: st) M) : AT l g own cc nL ret R P pc lv st M := fun p e s m args below meth c H locs ls C hP hS hl => by
  obtain ⟨hd, rfl⟩ := hd
  exact va_ldcS C.1 C.2.1 C.2.2.2.2.1 (hz _ _ _ C.2.2.2.2.2.2.2.2.2) hd (k p e s m args below meth c H locs ls C hP hS hl)
theorem A_getk {idx a : Nat} {nm d : String} {v : Value} (hd : di cc pc (.getfield idx) 3 n) (hw : Cond.fieldLink own idx "java/lang/String" nm d ∈ gd) (hz : ∀ (A : Nat → Prop) (U : State) (H : Heap), ST g A U H → va_OF "java/lang/String" nm d v a A U H) (k : AT l g own cc nL ret R P n lv (v :: st) M) : AT l g own cc nL ret R P pc lv (.ref a :: st) M := fun p e s m args below meth c H locs ls C hP hS hl => by
  obtain ⟨hd, rfl⟩ := hd
  exact vk_getf C.1 C.2.1 (hz _ _ _ C.2.2.2.2.2.2.2.2.2) hS C.2.2.2.2.1 (C.2.2.2.2.2.2.1 _ hw) (fun _ h => h) hd (k p e s m args below meth c H locs ls C hP hS hl)
theorem A_tlenB {t N : Nat} {f : Nat → Value} {v : Int32} (hd : di cc pc .arraylength 1 n) (hz : ∀ (A : Nat → Prop) (U : State) (H : Heap), ST g A U H → va_T .byte t N f A U H) (hv : Int32.ofNat N = v) (k : AT l g own cc nL ret R P n lv (.int v :: st) M) : AT l g own cc nL ret R P pc lv (.ref t :: st) M := fun p e s m args below meth c H locs ls C hP hS hl => by
  obtain ⟨hd, rfl⟩ := hd
  exact va_tlen C.1 C.2.1 (hz _ _ _ C.2.2.2.2.2.2.2.2.2) hS hv hd (k p e s m args below meth c H locs ls C hP hS hl)
theorem A_tbald {t N : Nat} {f : Nat → Int32} {i : Int32} (hd : di cc pc .baload 1 n) (hz : ∀ (A : Nat → Prop) (U : State) (H : Heap), ST g A U H → va_T .byte t N (fun j => .int (f j)) A U H) (hi : vp_in i N) (k : AT l g own cc nL ret R P n lv (.int (f i.toNatClampNeg) :: st) M) : AT l g own cc nL ret R P pc lv (.int i :: .ref t :: st) M := fun p e s m args below meth c H locs ls C hP hS hl => by
  obtain ⟨hd, rfl⟩ := hd
  exact va_tb C.1 C.2.1 (hz _ _ _ C.2.2.2.2.2.2.2.2.2) hS hi rfl hd (k p e s m args below meth c H locs ls C hP hS hl)
/-- a static that holds a reference or null -/
theorem A_getq {idx : Nat} {Cn nm d : String} (hd : di cc pc (.getstatic idx) 3 n) (hw : Cond.fieldLink own idx Cn nm d ∈ gd) (hz : ∀ (A : Nat → Prop) (U : State) (H : Heap), ST g A U H → va_Zq Cn nm d A U H) (k : ∀ v : Value, (v = .null ∨ ∃ t : Nat, v = .ref t) → AT l g own cc nL ret R P n lv (v :: st) M) : AT l g own cc nL ret R P pc lv st M := fun p e s m args below meth c H locs ls C hP hS hl => by
  obtain ⟨hd, rfl⟩ := hd
  rcases hz _ _ _ C.2.2.2.2.2.2.2.2.2 with h | ⟨t, h⟩
  · exact va_gets C.1 C.2.1 h hS C.2.2.2.2.1 (C.2.2.2.2.2.2.1 _ hw) (fun _ h => h) hd (k _ (Or.inl rfl) p e s m args below meth c H locs ls C hP hS hl)
  · exact va_gets C.1 C.2.1 h hS C.2.2.2.2.1 (C.2.2.2.2.2.2.1 _ hw) (fun _ h => h) hd (k _ (Or.inr ⟨t, rfl⟩) p e s m args below meth c H locs ls C hP hS hl)
end TXT
def PS (g : Cx) (r : Int32) (Mr : Mem) : Option Value → Mem → Prop := fun v M => v = some (.ref (g.2.2.2.2.1 r.toNatClampNeg)) ∧ M = Mr
def sL (w : Nat) : Int32 := Int32.ofNat (sLen.getD w 0) >>> ((0 : Int32) &&& 31)
def chr (w : Nat) (i : Int32) : Int32 := ((((sByt.getD w []).getD i.toNatClampNeg 0) &&& (255 : Int32)).toUInt32 % 65536).toInt32
def f_J0_coder_7d493 (_ : Nat) (M : Mem) : Option Ret := some (0, M)
def f_J0_length_8abf5 (w : Nat) (M : Mem) : Option Ret := some (sL w, M)
def f_J0_charAt_5068e (w : Nat) (v1 : Int32) (M : Mem) : Option Ret := gV v1 (sLen.getD w 0) (some (chr w v1, M))
theorem dJ3_checkIndex_8e157_0 : di cJ3_checkIndex_8e157 0 (.iload_n 0) 1 1 := ⟨by decide +kernel, rfl⟩
theorem dJ3_checkIndex_8e157_1 : dj cJ3_checkIndex_8e157 1 (.ifCond .lt) 4 9 := ⟨8, by decide +kernel, rfl, rfl⟩
theorem dJ3_checkIndex_8e157_4 : di cJ3_checkIndex_8e157 4 (.iload_n 0) 1 5 := ⟨by decide +kernel, rfl⟩
theorem dJ3_checkIndex_8e157_5 : di cJ3_checkIndex_8e157 5 (.iload_n 1) 1 6 := ⟨by decide +kernel, rfl⟩
theorem dJ3_checkIndex_8e157_6 : dj cJ3_checkIndex_8e157 6 (.if_icmp .lt) 9 16 := ⟨10, by decide +kernel, rfl, rfl⟩
theorem dJ3_checkIndex_8e157_9 : di cJ3_checkIndex_8e157 9 (.aload_n 2) 1 10 := ⟨by decide +kernel, rfl⟩
theorem dJ3_checkIndex_8e157_10 : di cJ3_checkIndex_8e157 10 (.iload_n 0) 1 11 := ⟨by decide +kernel, rfl⟩
theorem dJ3_checkIndex_8e157_11 : di cJ3_checkIndex_8e157 11 (.iload_n 1) 1 12 := ⟨by decide +kernel, rfl⟩
theorem dJ3_checkIndex_8e157_12 : di cJ3_checkIndex_8e157 12 (.invokestatic 95) 3 15 := ⟨by decide +kernel, rfl⟩
theorem dJ3_checkIndex_8e157_16 : di cJ3_checkIndex_8e157 16 (.iload_n 0) 1 17 := ⟨by decide +kernel, rfl⟩
theorem dJ3_checkIndex_8e157_17 : di cJ3_checkIndex_8e157 17 (.ireturn) 1 18 := ⟨by decide +kernel, rfl⟩
theorem dJ0_checkIndex_df160_0 : di cJ0_checkIndex_df160 0 (.iload_n 0) 1 1 := ⟨by decide +kernel, rfl⟩
theorem dJ0_checkIndex_df160_1 : di cJ0_checkIndex_df160 1 (.iload_n 1) 1 2 := ⟨by decide +kernel, rfl⟩
theorem dJ0_checkIndex_df160_2 : di cJ0_checkIndex_df160 2 (.getstatic 1053) 3 5 := ⟨by decide +kernel, rfl⟩
theorem dJ0_checkIndex_df160_5 : di cJ0_checkIndex_df160 5 (.invokestatic 1059) 3 8 := ⟨by decide +kernel, rfl⟩
theorem dJ0_checkIndex_df160_8 : di cJ0_checkIndex_df160 8 (.pop) 1 9 := ⟨by decide +kernel, rfl⟩
theorem dJ0_checkIndex_df160_9 : di cJ0_checkIndex_df160 9 (.return_) 1 10 := ⟨by decide +kernel, rfl⟩
theorem dJ1_charAt_3b067_0 : di cJ1_charAt_3b067 0 (.iload_n 1) 1 1 := ⟨by decide +kernel, rfl⟩
theorem dJ1_charAt_3b067_1 : di cJ1_charAt_3b067 1 (.aload_n 0) 1 2 := ⟨by decide +kernel, rfl⟩
theorem dJ1_charAt_3b067_2 : di cJ1_charAt_3b067 2 (.arraylength) 1 3 := ⟨by decide +kernel, rfl⟩
theorem dJ1_charAt_3b067_3 : di cJ1_charAt_3b067 3 (.invokestatic 9) 3 6 := ⟨by decide +kernel, rfl⟩
theorem dJ1_charAt_3b067_6 : di cJ1_charAt_3b067 6 (.aload_n 0) 1 7 := ⟨by decide +kernel, rfl⟩
theorem dJ1_charAt_3b067_7 : di cJ1_charAt_3b067 7 (.iload_n 1) 1 8 := ⟨by decide +kernel, rfl⟩
theorem dJ1_charAt_3b067_8 : di cJ1_charAt_3b067 8 (.baload) 1 9 := ⟨by decide +kernel, rfl⟩
theorem dJ1_charAt_3b067_9 : di cJ1_charAt_3b067 9 (.sipush 255) 3 12 := ⟨by decide +kernel, rfl⟩
theorem dJ1_charAt_3b067_12 : di cJ1_charAt_3b067 12 (.iand) 1 13 := ⟨by decide +kernel, rfl⟩
theorem dJ1_charAt_3b067_13 : di cJ1_charAt_3b067 13 (.i2c) 1 14 := ⟨by decide +kernel, rfl⟩
theorem dJ1_charAt_3b067_14 : di cJ1_charAt_3b067 14 (.ireturn) 1 15 := ⟨by decide +kernel, rfl⟩
theorem dJ0_isLatin1_aae02_0 : di cJ0_isLatin1_aae02 0 (.getstatic 38) 3 3 := ⟨by decide +kernel, rfl⟩
theorem dJ0_isLatin1_aae02_3 : dj cJ0_isLatin1_aae02 3 (.ifCond .eq) 6 17 := ⟨14, by decide +kernel, rfl, rfl⟩
theorem dJ0_isLatin1_aae02_6 : di cJ0_isLatin1_aae02 6 (.aload_n 0) 1 7 := ⟨by decide +kernel, rfl⟩
theorem dJ0_isLatin1_aae02_7 : di cJ0_isLatin1_aae02 7 (.getfield 15) 3 10 := ⟨by decide +kernel, rfl⟩
theorem dJ0_isLatin1_aae02_10 : dj cJ0_isLatin1_aae02 10 (.ifCond .ne) 13 17 := ⟨7, by decide +kernel, rfl, rfl⟩
theorem dJ0_isLatin1_aae02_13 : di cJ0_isLatin1_aae02 13 (.iconst 1) 1 14 := ⟨by decide +kernel, rfl⟩
theorem dJ0_isLatin1_aae02_14 : dj cJ0_isLatin1_aae02 14 .goto 17 18 := ⟨4, by decide +kernel, rfl, rfl⟩
theorem dJ0_isLatin1_aae02_17 : di cJ0_isLatin1_aae02 17 (.iconst 0) 1 18 := ⟨by decide +kernel, rfl⟩
theorem dJ0_isLatin1_aae02_18 : di cJ0_isLatin1_aae02 18 (.ireturn) 1 19 := ⟨by decide +kernel, rfl⟩
theorem dJ0_charAt_5068e_0 : di cJ0_charAt_5068e 0 (.aload_n 0) 1 1 := ⟨by decide +kernel, rfl⟩
theorem dJ0_charAt_5068e_1 : di cJ0_charAt_5068e 1 (.invokevirtual 492) 3 4 := ⟨by decide +kernel, rfl⟩
theorem dJ0_charAt_5068e_4 : dj cJ0_charAt_5068e 4 (.ifCond .eq) 7 16 := ⟨12, by decide +kernel, rfl, rfl⟩
theorem dJ0_charAt_5068e_7 : di cJ0_charAt_5068e 7 (.aload_n 0) 1 8 := ⟨by decide +kernel, rfl⟩
theorem dJ0_charAt_5068e_8 : di cJ0_charAt_5068e 8 (.getfield 9) 3 11 := ⟨by decide +kernel, rfl⟩
theorem dJ0_charAt_5068e_11 : di cJ0_charAt_5068e 11 (.iload_n 1) 1 12 := ⟨by decide +kernel, rfl⟩
theorem dJ0_charAt_5068e_12 : di cJ0_charAt_5068e 12 (.invokestatic 495) 3 15 := ⟨by decide +kernel, rfl⟩
theorem dJ0_charAt_5068e_15 : di cJ0_charAt_5068e 15 (.ireturn) 1 16 := ⟨by decide +kernel, rfl⟩
theorem dJ0_charAt_5068e_16 : di cJ0_charAt_5068e 16 (.aload_n 0) 1 17 := ⟨by decide +kernel, rfl⟩
theorem dJ0_charAt_5068e_17 : di cJ0_charAt_5068e 17 (.getfield 9) 3 20 := ⟨by decide +kernel, rfl⟩
theorem dJ0_charAt_5068e_20 : di cJ0_charAt_5068e 20 (.iload_n 1) 1 21 := ⟨by decide +kernel, rfl⟩
theorem dJ0_charAt_5068e_21 : di cJ0_charAt_5068e 21 (.invokestatic 498) 3 24 := ⟨by decide +kernel, rfl⟩
theorem dJ0_charAt_5068e_24 : di cJ0_charAt_5068e 24 (.ireturn) 1 25 := ⟨by decide +kernel, rfl⟩
theorem dJ0_coder_7d493_0 : di cJ0_coder_7d493 0 (.getstatic 38) 3 3 := ⟨by decide +kernel, rfl⟩
theorem dJ0_coder_7d493_3 : dj cJ0_coder_7d493 3 (.ifCond .eq) 6 13 := ⟨10, by decide +kernel, rfl, rfl⟩
theorem dJ0_coder_7d493_6 : di cJ0_coder_7d493 6 (.aload_n 0) 1 7 := ⟨by decide +kernel, rfl⟩
theorem dJ0_coder_7d493_7 : di cJ0_coder_7d493 7 (.getfield 15) 3 10 := ⟨by decide +kernel, rfl⟩
theorem dJ0_coder_7d493_10 : dj cJ0_coder_7d493 10 .goto 13 14 := ⟨4, by decide +kernel, rfl, rfl⟩
theorem dJ0_coder_7d493_13 : di cJ0_coder_7d493 13 (.iconst 1) 1 14 := ⟨by decide +kernel, rfl⟩
theorem dJ0_coder_7d493_14 : di cJ0_coder_7d493 14 (.ireturn) 1 15 := ⟨by decide +kernel, rfl⟩
theorem dJ0_length_8abf5_0 : di cJ0_length_8abf5 0 (.aload_n 0) 1 1 := ⟨by decide +kernel, rfl⟩
theorem dJ0_length_8abf5_1 : di cJ0_length_8abf5 1 (.getfield 9) 3 4 := ⟨by decide +kernel, rfl⟩
theorem dJ0_length_8abf5_4 : di cJ0_length_8abf5 4 (.arraylength) 1 5 := ⟨by decide +kernel, rfl⟩
theorem dJ0_length_8abf5_5 : di cJ0_length_8abf5 5 (.aload_n 0) 1 6 := ⟨by decide +kernel, rfl⟩
theorem dJ0_length_8abf5_6 : di cJ0_length_8abf5 6 (.invokevirtual 335) 3 9 := ⟨by decide +kernel, rfl⟩
theorem dJ0_length_8abf5_9 : di cJ0_length_8abf5 9 (.ishr) 1 10 := ⟨by decide +kernel, rfl⟩
theorem dJ0_length_8abf5_10 : di cJ0_length_8abf5 10 (.ireturn) 1 11 := ⟨by decide +kernel, rfl⟩
theorem dX5_wordOf_0 : di cX5_wordOf 0 (.iload_n 0) 1 1 := ⟨by decide +kernel, rfl⟩
theorem dX5_wordOf_1 : dts cX5_wordOf 1 (0) (3) 44 [32, 35, 38, 41] := ⟨43, #[31, 34, 37, 40], 31, by decide +kernel, rfl, by decide +kernel⟩
theorem dX5_wordOf_32 : di cX5_wordOf 32 (.ldc 84) 2 34 := ⟨by decide +kernel, rfl⟩
theorem dX5_wordOf_34 : di cX5_wordOf 34 (.areturn) 1 35 := ⟨by decide +kernel, rfl⟩
theorem dX5_wordOf_35 : di cX5_wordOf 35 (.ldc 86) 2 37 := ⟨by decide +kernel, rfl⟩
theorem dX5_wordOf_37 : di cX5_wordOf 37 (.areturn) 1 38 := ⟨by decide +kernel, rfl⟩
theorem dX5_wordOf_38 : di cX5_wordOf 38 (.ldc 88) 2 40 := ⟨by decide +kernel, rfl⟩
theorem dX5_wordOf_40 : di cX5_wordOf 40 (.areturn) 1 41 := ⟨by decide +kernel, rfl⟩
theorem dX5_wordOf_41 : di cX5_wordOf 41 (.ldc 90) 2 43 := ⟨by decide +kernel, rfl⟩
theorem dX5_wordOf_43 : di cX5_wordOf 43 (.areturn) 1 44 := ⟨by decide +kernel, rfl⟩
theorem dX5_wordOf_44 : di cX5_wordOf 44 (.ldc 92) 2 46 := ⟨by decide +kernel, rfl⟩
theorem dX5_wordOf_46 : di cX5_wordOf 46 (.areturn) 1 47 := ⟨by decide +kernel, rfl⟩
theorem ok_J3_checkIndex_8e157 {l : Launch} {g : Cx} {i n : Int32} {v : Value} {M : Mem} (hv : v = .null ∨ ∃ t : Nat, v = .ref t) (h0 : ¬ i < 0) (h1 : i < n) : CT l g yJ3_checkIndex_8e157 cJ3_checkIndex_8e157 3 (some .int) 0 0 [.int i, .int n, v] M (PI i M) := by
  have key : AT l g yJ3_checkIndex_8e157.cls cJ3_checkIndex_8e157 3 (some .int) (rmM 0 0) (PI i M) 0 [some (.int i), some (.int n), some v] [] M := by
    refine A_iload_n dJ3_checkIndex_8e157_0 rfl ?_
    refine A_if_lt dJ3_checkIndex_8e157_1 (fun hc => absurd hc h0) (fun _ => ?_)
    refine A_iload_n dJ3_checkIndex_8e157_4 rfl ?_
    refine A_iload_n dJ3_checkIndex_8e157_5 rfl ?_
    refine A_icmp_lt dJ3_checkIndex_8e157_6 (fun _ => ?_) (fun hc => absurd h1 hc)
    refine A_iload_n dJ3_checkIndex_8e157_16 rfl ?_
    exact A_iret dJ3_checkIndex_8e157_17 ⟨rfl, rfl⟩
  rcases hv with rfl | ⟨t, rfl⟩
  · exact CT_of (by decide) rfl (Nat.le_of_ble_eq_true rfl) key
  · exact CT_of (by decide) rfl (Nat.le_of_ble_eq_true rfl) key
theorem ok_J0_checkIndex_df160 {l : Launch} {g : Cx} {i n : Int32} {M : Mem} (h0 : ¬ i < 0) (h1 : i < n) : CT l g yJ0_checkIndex_df160 cJ0_checkIndex_df160 2 none 1 22 [.int i, .int n] M (PV 0 M) := by
  refine CT_of (lv := [some (.int i), some (.int n)]) (by decide) rfl (Nat.le_of_ble_eq_true rfl) ?_
  refine A_iload_n dJ0_checkIndex_df160_0 rfl ?_
  refine A_iload_n dJ0_checkIndex_df160_1 rfl ?_
  refine A_getq dJ0_checkIndex_df160_2 sl_J0_1053 (fun _ _ _ h => h.2.2.2.2.2.2.2) (fun v hv => ?_)
  refine A_cSi3 dJ0_checkIndex_df160_5 ml_J0_1059 mb_J3_checkIndex_8e157 ms_J3_checkIndex_8e157 ⟨Nat.le_of_ble_eq_true rfl, Nat.le_of_ble_eq_true rfl⟩ (Nat.le_of_ble_eq_true rfl) (ok_J3_checkIndex_8e157 hv h0 h1) ?_
  refine A_pop dJ0_checkIndex_df160_8 rfl ?_
  exact A_vret dJ0_checkIndex_df160_9 ⟨rfl, rfl⟩
theorem ok_J1_charAt_3b067 {l : Launch} {g : Cx} {w : Nat} {i : Int32} {M : Mem} (hw : w < 5) (hi : vp_in i (sLen.getD w 0)) (h1 : i < Int32.ofNat (sLen.getD w 0)) : CT l g yJ1_charAt_3b067 cJ1_charAt_3b067 2 (some .char) 2 43 [.ref (g.2.2.2.2.2 w), .int i] M (PI (chr w i) M) := by
  refine CT_of (lv := [some (.ref (g.2.2.2.2.2 w)), some (.int i)]) (by decide) rfl (Nat.le_of_ble_eq_true rfl) ?_
  refine A_iload_n dJ1_charAt_3b067_0 rfl ?_
  refine A_aload_n dJ1_charAt_3b067_1 rfl ?_
  refine A_tlenB (v := Int32.ofNat (sLen.getD w 0)) dJ1_charAt_3b067_2 (fun _ _ _ h => (h.2.2.2.2.1.1 w hw).2.2.2) rfl ?_
  refine A_cSv2 dJ1_charAt_3b067_3 ml_J1_9 mb_J0_checkIndex_df160 ms_J0_checkIndex_df160 ⟨Nat.le_of_ble_eq_true rfl, Nat.le_of_ble_eq_true rfl⟩ (Nat.le_of_ble_eq_true rfl) (ok_J0_checkIndex_df160 (fun q => hi (Or.inl q)) h1) ?_
  refine A_aload_n dJ1_charAt_3b067_6 rfl ?_
  refine A_iload_n dJ1_charAt_3b067_7 rfl ?_
  refine A_tbald (f := fun j => (sByt.getD w []).getD j 0) dJ1_charAt_3b067_8 (fun _ _ _ h => (h.2.2.2.2.1.1 w hw).2.2.2) hi ?_
  refine A_sipush (v := 255) dJ1_charAt_3b067_9 (by decide) ?_
  refine A_iand dJ1_charAt_3b067_12 ?_
  refine A_i2c dJ1_charAt_3b067_13 ?_
  exact A_cret dJ1_charAt_3b067_14 (pk_nc _) ⟨rfl, rfl⟩
theorem ok_J0_isLatin1_aae02 {l : Launch} {g : Cx} {w : Nat} {M : Mem} (hw : w < 5) : CT l g yJ0_isLatin1_aae02 cJ0_isLatin1_aae02 1 (some .boolean) 0 0 [.ref (g.2.2.2.2.1 w)] M (PI 1 M) := by
  refine CT_of (lv := [some (.ref (g.2.2.2.2.1 w))]) (by decide) rfl (Nat.le_of_ble_eq_true rfl) ?_
  refine A_gets dJ0_isLatin1_aae02_0 sl_J0_38 (fun _ _ _ h => h.2.2.2.1) ?_
  refine A_if_eq dJ0_isLatin1_aae02_3 (fun hc => absurd hc (by decide)) (fun _ => ?_)
  refine A_aload_n dJ0_isLatin1_aae02_6 rfl ?_
  refine A_getk dJ0_isLatin1_aae02_7 sl_J0_15 (fun _ _ _ h => (h.2.2.2.2.1.1 w hw).2.1) ?_
  refine A_if_ne dJ0_isLatin1_aae02_10 (fun hc => absurd rfl hc) (fun _ => ?_)
  refine A_iconst (v := 1) dJ0_isLatin1_aae02_13 (by decide) ?_
  refine A_goto dJ0_isLatin1_aae02_14 ?_
  exact A_zret dJ0_isLatin1_aae02_18 (by decide) ⟨rfl, rfl⟩
theorem ok_J0_coder_7d493 {l : Launch} {g : Cx} {w : Nat} {M : Mem} {r : Int32} {Mr : Mem} (hw : w < 5) (h : f_J0_coder_7d493 w M = some (r, Mr)) : CT l g yJ0_coder_7d493 cJ0_coder_7d493 1 (some .byte) 0 0 [.ref (g.2.2.2.2.1 w)] M (PI r Mr) := by
  cases h
  refine CT_of (lv := [some (.ref (g.2.2.2.2.1 w))]) (by decide) rfl (Nat.le_of_ble_eq_true rfl) ?_
  refine A_gets dJ0_coder_7d493_0 sl_J0_38 (fun _ _ _ h => h.2.2.2.1) ?_
  refine A_if_eq dJ0_coder_7d493_3 (fun hc => absurd hc (by decide)) (fun _ => ?_)
  refine A_aload_n dJ0_coder_7d493_6 rfl ?_
  refine A_getk dJ0_coder_7d493_7 sl_J0_15 (fun _ _ _ h => (h.2.2.2.2.1.1 w hw).2.1) ?_
  refine A_goto dJ0_coder_7d493_10 ?_
  exact A_cret dJ0_coder_7d493_14 rfl ⟨rfl, rfl⟩
theorem ok_J0_length_8abf5 {l : Launch} {g : Cx} {w : Nat} {M : Mem} {r : Int32} {Mr : Mem} (hw : w < 5) (h : f_J0_length_8abf5 w M = some (r, Mr)) : CT l g yJ0_length_8abf5 cJ0_length_8abf5 1 (some .int) 1 20 [.ref (g.2.2.2.2.1 w)] M (PI r Mr) := by
  cases h
  refine CT_of (lv := [some (.ref (g.2.2.2.2.1 w))]) (by decide) rfl (Nat.le_of_ble_eq_true rfl) ?_
  refine A_aload_n dJ0_length_8abf5_0 rfl ?_
  refine A_getk dJ0_length_8abf5_1 sl_J0_9 (fun _ _ _ h => (h.2.2.2.2.1.1 w hw).2.2.1) ?_
  refine A_tlenB (v := Int32.ofNat (sLen.getD w 0)) dJ0_length_8abf5_4 (fun _ _ _ h => (h.2.2.2.2.1.1 w hw).2.2.2) rfl ?_
  refine A_aload_n dJ0_length_8abf5_5 rfl ?_
  refine A_cVs0 hw rfl dJ0_length_8abf5_6 ml_J0_335 mb_J0_coder_7d493 mi_J0_coder_7d493 ⟨Nat.le_of_ble_eq_true rfl, Nat.le_of_ble_eq_true rfl⟩ (Nat.le_of_ble_eq_true rfl) (ok_J0_coder_7d493 hw rfl) ?_
  refine A_ishr dJ0_length_8abf5_9 ?_
  exact A_iret dJ0_length_8abf5_10 ⟨rfl, rfl⟩
theorem sLen_lt {w : Nat} : sLen.getD w 0 < 2 ^ 31 := by
  rcases (show w = 0 ∨ w = 1 ∨ w = 2 ∨ w = 3 ∨ w = 4 ∨ 5 ≤ w by omega) with rfl | rfl | rfl | rfl | rfl | h
  · decide
  · decide
  · decide
  · decide
  · decide
  · have : sLen.getD w 0 = 0 := by
      rw [List.getD_eq_getElem?_getD, List.getElem?_eq_none (show sLen.length ≤ w from h)]; rfl
    rw [this]; decide
theorem ok_J0_charAt_5068e {l : Launch} {g : Cx} {w : Nat} {v1 : Int32} {M : Mem} {r : Int32} {Mr : Mem} (hw : w < 5) (h : f_J0_charAt_5068e w v1 M = some (r, Mr)) : CT l g yJ0_charAt_5068e cJ0_charAt_5068e 2 (some .char) 4 85 [.ref (g.2.2.2.2.1 w), .int v1] M (PI r Mr) := by
  unfold f_J0_charAt_5068e at h
  obtain ⟨hg, h⟩ := gV_go h
  cases h
  have h1 : v1 < Int32.ofNat (sLen.getD w 0) := by
    obtain ⟨j, hj, rfl⟩ := vp_in_of hg sLen_lt
    exact nI_lt hj sLen_lt
  refine CT_of (lv := [some (.ref (g.2.2.2.2.1 w)), some (.int v1)]) (by decide) rfl (Nat.le_of_ble_eq_true rfl) ?_
  refine A_aload_n dJ0_charAt_5068e_0 rfl ?_
  refine A_cVs0 hw rfl dJ0_charAt_5068e_1 ml_J0_492 mb_J0_isLatin1_aae02 mi_J0_isLatin1_aae02 ⟨Nat.le_of_ble_eq_true rfl, Nat.le_of_ble_eq_true rfl⟩ (Nat.le_of_ble_eq_true rfl) (ok_J0_isLatin1_aae02 hw) ?_
  refine A_if_eq dJ0_charAt_5068e_4 (fun hc => absurd hc (by decide)) (fun _ => ?_)
  refine A_aload_n dJ0_charAt_5068e_7 rfl ?_
  refine A_getk dJ0_charAt_5068e_8 sl_J0_9 (fun _ _ _ h => (h.2.2.2.2.1.1 w hw).2.2.1) ?_
  refine A_iload_n dJ0_charAt_5068e_11 rfl ?_
  refine A_cSi2 dJ0_charAt_5068e_12 ml_J0_495 mb_J1_charAt_3b067 ms_J1_charAt_3b067 ⟨Nat.le_of_ble_eq_true rfl, Nat.le_of_ble_eq_true rfl⟩ (Nat.le_of_ble_eq_true rfl) (ok_J1_charAt_3b067 hw hg h1) ?_
  exact A_cret dJ0_charAt_5068e_15 (pk_nc _) ⟨rfl, rfl⟩
def f_X5_wordOf (v0 : Int32) (M : Mem) : Option Ret := if v0 = 0 then some (0, M) else if v0 = 1 then some (1, M) else if v0 = 2 then some (2, M) else if v0 = 3 then some (3, M) else some (4, M)
theorem ok_X5_wordOf {l : Launch} {g : Cx} {v0 : Int32} {M : Mem} {r : Int32} {Mr : Mem} (h : f_X5_wordOf v0 M = some (r, Mr)) : CT l g yX5_wordOf cX5_wordOf 1 (some (.object "java/lang/String")) 0 0 [.int v0] M (PS g r Mr) := by
  refine CT_of (lv := [some (.int v0)]) (by decide) rfl (Nat.le_of_ble_eq_true rfl) ?_
  unfold f_X5_wordOf at h
  refine A_iload_n dX5_wordOf_0 rfl ?_
  by_cases hc0 : v0 = 0
  · have h := gT_go hc0 h
    cases h
    refine A_tsIn (k0 := 0) dX5_wordOf_1 (by rw [hc0]; decide) rfl ?_
    refine A_ldcS (q := g.2.2.2.2.1 0) dX5_wordOf_32 (fun _ _ _ h => h.2.2.2.2.2.1.1) ?_
    exact A_aret dX5_wordOf_34 ⟨rfl, rfl⟩
  have h := gF_go hc0 h
  by_cases hc1 : v0 = 1
  · have h := gT_go hc1 h
    cases h
    refine A_tsIn (k0 := 1) dX5_wordOf_1 (by rw [hc1]; decide) rfl ?_
    refine A_ldcS (q := g.2.2.2.2.1 1) dX5_wordOf_35 (fun _ _ _ h => h.2.2.2.2.2.1.2.1) ?_
    exact A_aret dX5_wordOf_37 ⟨rfl, rfl⟩
  have h := gF_go hc1 h
  by_cases hc2 : v0 = 2
  · have h := gT_go hc2 h
    cases h
    refine A_tsIn (k0 := 2) dX5_wordOf_1 (by rw [hc2]; decide) rfl ?_
    refine A_ldcS (q := g.2.2.2.2.1 2) dX5_wordOf_38 (fun _ _ _ h => h.2.2.2.2.2.1.2.2.1) ?_
    exact A_aret dX5_wordOf_40 ⟨rfl, rfl⟩
  have h := gF_go hc2 h
  by_cases hc3 : v0 = 3
  · have h := gT_go hc3 h
    cases h
    refine A_tsIn (k0 := 3) dX5_wordOf_1 (by rw [hc3]; decide) rfl ?_
    refine A_ldcS (q := g.2.2.2.2.1 3) dX5_wordOf_41 (fun _ _ _ h => h.2.2.2.2.2.1.2.2.2.1) ?_
    exact A_aret dX5_wordOf_43 ⟨rfl, rfl⟩
  have h := gF_go hc3 h
  cases h
  refine A_tsOut dX5_wordOf_1 (tsw_out (fun k h1 h2 => ?_)) ?_
  · rcases (show k = 0 ∨ k = 1 ∨ k = 2 ∨ k = 3 by omega) with rfl | rfl | rfl | rfl
    · exact hc0
    · exact hc1
    · exact hc2
    · exact hc3
  · refine A_ldcS (q := g.2.2.2.2.1 4) dX5_wordOf_44 (fun _ _ _ h => h.2.2.2.2.2.1.2.2.2.2) ?_
    exact A_aret dX5_wordOf_46 ⟨rfl, rfl⟩
