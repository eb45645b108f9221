/-! CALLS: a callee's contract at the caller's frame -/
theorem A_core {p : Program} {l : Launch} {e : Env} {R : Room} {s : State} {m : MethodId} {args : Array Value} {below : List Frame} {meth : Method} {c : Code} {H : Heap} {locs : List Loc} {Q : State → Prop} {g : Cx} {P' : Option Value → Mem → Prop} {pc : Nat} {ls : Array Slot} {rest st0 : List Value} {a : Array Value}
    (hr : va_Run p l e R s m args below meth c H locs 0 0 0 0 (F0 m pc ls st0) rest (QC g P' a) (inW g)) (hS : va_S (inW g) s.heap H locs)
    (kk : ∀ (v : Option Value) (M' : Mem) (H1 : Heap) (locs1 : List Loc), P' v M' → va_P g.2.1 cls (wl g M') H1 → va_S (inW g) s.heap H1 locs1 → W p l e R s m args below meth c H1 locs1 0 0 Q (F0 m (pc + 3) ls (v.toList ++ rest))) : W p l e R s m args below meth c H locs 0 0 Q (F0 m pc ls st0) := by
  intro T hT X
  obtain ⟨v, st₀, t, T', L, h0, X', hL, e1, e2, ⟨⟨r, M', hv, hp, hb⟩, hz, hk⟩, st⟩ := hr T hT X
  cases hv
  rw [h0] at hz hk
  obtain ⟨t2, a1, b1⟩ := kk v M' T'.heap (locs ++ L) hp (by rw [e1]; exact hb)
    ⟨Nat.le_trans hS.1 (by rw [e1]; exact hz), fun q h1 h2 => by rw [e1, hk q (Nat.lt_of_lt_of_le h1 hS.1) h2]; exact hS.2.1 q h1 h2, fun q hq => by
      rcases List.mem_append.mp hq with h | h
      · exact hS.2.2 q h
      · exact hL q h⟩ T' rfl X'
  exact ⟨t2, st t2 a1, b1⟩
theorem A_blind {g : Cx} {M : Mem} {as : List Value} : FrameBlind (va_Pc as (fun U => va_P g.2.1 cls (wl g M) U.heap ∧ va_K g.2.1 cls (tysG g) U ∧ DJ g ∧ ST g (inW g) U U.heap)) := fun a U gf mk q => by
  obtain ⟨q0, q1, q2, q3, q4⟩ := q
  exact ⟨q0, q1, va_K.moved (u := U) (U := U.calling gf mk a) (Vm.Alike.refl U.vm) q2, q3, ST.same (u := U) rfl q4⟩
theorem A_pre {g : Cx} {M : Mem} {as : List Value} {s : State} {H : Heap} {locs : List Loc} (hK : va_K g.2.1 cls (tysG g) s) (hJ : DJ g) (hT : ST g (inW g) s s.heap) (hP : va_P g.2.1 cls (wl g M) H) (hS : va_S (inW g) s.heap H locs) : ∀ U : State, U.heap = H → s.WarmedH U.vm → va_Pc as (fun U => va_P g.2.1 cls (wl g M) U.heap ∧ va_K g.2.1 cls (tysG g) U ∧ DJ g ∧ ST g (inW g) U U.heap) as.toArray U := fun U hU hW =>
  ⟨rfl, by rw [hU]; exact hP, va_K.moved hW.alike hK, hJ, by rw [hU]; exact hT.go hW hS.2.1⟩
def MB (y : MethodName) (cy : ByteArray) (ny : Nat) (ry : Option FieldType) (n : Nat) : Prop := Cond.initialized y.cls ∈ gd ∧ Cond.code y cy ny ry ∈ gd ∧ (y.cls ≠ "java/lang/invoke/MethodHandle" ∧ y.cls ≠ "java/lang/invoke/VarHandle" ∧ (parseMethodDescriptor y.desc).map (fun d => d.parameters.length) = some n)
def MI (y : MethodName) : Prop := Cond.instanceMethod y ∈ gd ∧ Cond.selects y.cls y y ∈ gd
section CALLS
variable {l : Launch} {g : Cx} {own : String} {cc : ByteArray} {nL : Nat} {ret : Option FieldType} {R : Room} {P : Option Value → Mem → Prop} {pc n : Nat} {lv : List (Option Value)} {st : List Value} {M : Mem}
variable {y : MethodName} {cy : ByteArray} {ny : Nat} {ry : Option FieldType} {fr lo : Nat} {as rest : List Value} {P' : Option Value → Mem → Prop}
theorem A_callV {idx : Nat} {b : Nat} (hd : di cc pc (.invokevirtual idx) 3 n) (hl0 : Cond.methodLink own idx y ∈ gd) (hb0 : MB y cy ny ry as.length) (hi : MI y)
    (hrc : ∀ (s : State) (H : Heap), va_K g.2.1 cls (tysG g) s → va_P g.2.1 cls (wl g M) H → ∃ cellB : Cell, H[b]? = some cellB ∧ cellB.vm.isStatics = false ∧ s.vm.findClass y.cls = some cellB.cls)
    (hR : fr + 1 ≤ R.frames ∧ 8 + (ny + 11) + lo ≤ R.locals) (hst : (rest.map fun v => v.category).sum ≤ 8) (hC : CT l g y cy ny ry fr lo (.ref b :: as) M P')
    (k : ∀ (v : Option Value) (M' : Mem), P' v M' → AT l g own cc nL ret R P n lv (v.toList ++ rest) M') : AT l g own cc nL ret R P pc lv (as.reverse ++ .ref b :: rest) M := fun p e s m args below meth c H locs ls C hP hS hl => by
  obtain ⟨hd, rfl⟩ := hd
  have hts := C.2.2.2.2.2.2.1
  have hG : GoodIn gd (wsV own idx y.cls y (Cond.code y cy ny ry :: gd)) := by
    intro w hw
    unfold wsV at hw
    simp only [List.mem_append, List.mem_cons, List.not_mem_nil, or_false] at hw
    rcases hw with (rfl | rfl | rfl | rfl) | (rfl | hw)
    · exact gd_good hl0
    · exact gd_good hi.1
    · exact gd_good hi.2
    · exact gd_good hb0.1
    · exact gd_good hb0.2.1
    · exact gd_good hw
  refine A_core (va_runV (As := as) (rest := rest) (Ts := gd) (C := y.cls) ⟨C.1, C.2.1, C.2.2.2.1, C.2.2.2.2.1, hts⟩ hC (cwV as.length hts hG rfl rfl rfl ⟨rfl, hb0.2.2⟩ hR) ⟨A_blind, hrc s H C.2.2.2.2.2.2.2.1 hP, A_pre (as := .ref b :: as) C.2.2.2.2.2.2.2.1 C.2.2.2.2.2.2.2.2.1 C.2.2.2.2.2.2.2.2.2 hP hS⟩ rfl rfl hl.1 rfl (lv_room hst) hd ⟨Nat.zero_le _, Nat.zero_le _⟩) hS (fun v M' H1 locs1 h1 h2 h3 => ?_)
  exact k v M' h1 p e s m args below meth c H1 locs1 ls C h2 h3 hl
theorem A_rc {q ci : Nat} {fs : Cx → Mem → List Value} {r : vw_C} (hq : OB q ci fs) (hc : cls[ci]? = some r) : ∀ (s : State) (H : Heap), va_K g.2.1 cls (tysG g) s → va_P g.2.1 cls (wl g M) H → ∃ cellB : Cell, H[g.1 q]? = some cellB ∧ cellB.vm.isStatics = false ∧ s.vm.findClass r.1 = some cellB.cls := fun s H hK hP => va_recv hK hP hc (hq g M)
theorem A_callS {idx : Nat} (hd : di cc pc (.invokestatic idx) 3 n) (hl0 : Cond.methodLink own idx y ∈ gd) (hb0 : MB y cy ny ry as.length) (hi : Cond.static y ∈ gd)
    (hR : fr + 1 ≤ R.frames ∧ 8 + (ny + 11) + lo ≤ R.locals) (hst : (rest.map fun v => v.category).sum ≤ 8) (hC : CT l g y cy ny ry fr lo as M P')
    (k : ∀ (v : Option Value) (M' : Mem), P' v M' → AT l g own cc nL ret R P n lv (v.toList ++ rest) M') : AT l g own cc nL ret R P pc lv (as.reverse ++ rest) M := fun p e s m args below meth c H locs ls C hP hS hl => by
  obtain ⟨hd, rfl⟩ := hd
  have hts := C.2.2.2.2.2.2.1
  have hG : GoodIn gd (va_wsS own idx y (Cond.code y cy ny ry :: gd)) := by
    intro w hw
    unfold va_wsS at hw
    simp only [List.mem_append, List.mem_cons, List.not_mem_nil, or_false] at hw
    rcases hw with (rfl | rfl | rfl) | (rfl | hw)
    · exact gd_good hl0
    · exact gd_good hi
    · exact gd_good hb0.1
    · exact gd_good hb0.2.1
    · exact gd_good hw
  refine A_core (va_runS (As := as) (rest := rest) (Ts := gd) ⟨C.1, C.2.1, C.2.2.2.1, C.2.2.2.2.1, hts⟩ hC (va_cwS as.length hts hG rfl rfl rfl hb0.2.2 hR) ⟨A_blind, A_pre C.2.2.2.2.2.2.2.1 C.2.2.2.2.2.2.2.2.1 C.2.2.2.2.2.2.2.2.2 hP hS⟩ rfl rfl hl.1 rfl (lv_room hst) hd ⟨Nat.zero_le _, Nat.zero_le _⟩) hS (fun v M' H1 locs1 h1 h2 h3 => ?_)
  exact k v M' h1 p e s m args below meth c H1 locs1 ls C h2 h3 hl
theorem A_callN {idx : Nat} {host : String} (hd : di cc pc (.invokestatic idx) 3 n) (hl0 : Cond.methodLinkNest own idx y host ∈ nestW) (hb0 : MB y cy ny ry as.length) (hi : Cond.static y ∈ gd)
    (hR : fr + 1 ≤ R.frames ∧ 8 + (ny + 11) + lo ≤ R.locals) (hst : (rest.map fun v => v.category).sum ≤ 8) (hC : CT l g y cy ny ry fr lo as M P')
    (k : ∀ (v : Option Value) (M' : Mem), P' v M' → AT l g own cc nL ret R P n lv (v.toList ++ rest) M') : AT l g own cc nL ret R P pc lv (as.reverse ++ rest) M := fun p e s m args below meth c H locs ls C hP hS hl => by
  obtain ⟨hd, rfl⟩ := hd
  have hts := C.2.2.2.2.2.2.1
  have hT := C.2.2.2.2.2.2.2.2.2
  have hG : GoodIn gd (Cond.code y cy ny ry :: gd) := by
    intro w hw
    rcases List.mem_cons.mp hw with rfl | hw
    · exact gd_good hb0.2.1
    · exact gd_good hw
  refine A_core (va_runSN (As := as) (rest := rest) (Ts := gd) ⟨C.1, C.2.1, C.2.2.2.1, C.2.2.2.2.1, hts⟩ hC ⟨va_cnB as.length hts hG rfl rfl rfl (hT.2.2.2.2.2.2.1 _ hl0) (hts _ hb0.1) hb0.2.2 hR, hts _ hi, trivial⟩ ⟨A_blind, A_pre C.2.2.2.2.2.2.2.1 C.2.2.2.2.2.2.2.2.1 C.2.2.2.2.2.2.2.2.2 hP hS⟩ rfl rfl hl.1 rfl (lv_room hst) hd ⟨Nat.zero_le _, Nat.zero_le _⟩) hS (fun v M' H1 locs1 h1 h2 h3 => ?_)
  exact k v M' h1 p e s m args below meth c H1 locs1 ls C h2 h3 hl
theorem A_callV0 {idx q ci : Nat} {fs : Cx → Mem → List Value} {r : vw_C} (hd : di cc pc (.invokevirtual idx) 3 n) (hl0 : Cond.methodLink own idx y ∈ gd) (hb0 : MB y cy ny ry 0) (hi : MI y) (hq : OB q ci fs) (hc : cls[ci]? = some r) (hr : r.1 = y.cls) (hR : fr + 1 ≤ R.frames ∧ 8 + (ny + 11) + lo ≤ R.locals) (hst : (rest.map fun v => v.category).sum ≤ 8) (hC : CT l g y cy ny ry fr lo (.ref (g.1 q) :: []) M P') (k : ∀ (v : Option Value) (M' : Mem), P' v M' → AT l g own cc nL ret R P n lv (v.toList ++ rest) M') : AT l g own cc nL ret R P pc lv (.ref (g.1 q) :: rest) M := A_callV (as := []) hd hl0 hb0 hi (hr ▸ A_rc hq hc) hR hst hC k
theorem A_callS0 {idx : Nat} (hd : di cc pc (.invokestatic idx) 3 n) (hl0 : Cond.methodLink own idx y ∈ gd) (hb0 : MB y cy ny ry 0) (hi : Cond.static y ∈ gd) (hR : fr + 1 ≤ R.frames ∧ 8 + (ny + 11) + lo ≤ R.locals) (hst : (rest.map fun v => v.category).sum ≤ 8) (hC : CT l g y cy ny ry fr lo [] M P') (k : ∀ (v : Option Value) (M' : Mem), P' v M' → AT l g own cc nL ret R P n lv (v.toList ++ rest) M') : AT l g own cc nL ret R P pc lv (rest) M := A_callS (as := []) hd hl0 hb0 hi hR hst hC k
theorem A_callN0 {idx : Nat} {host : String} (hd : di cc pc (.invokestatic idx) 3 n) (hl0 : Cond.methodLinkNest own idx y host ∈ nestW) (hb0 : MB y cy ny ry 0) (hi : Cond.static y ∈ gd) (hR : fr + 1 ≤ R.frames ∧ 8 + (ny + 11) + lo ≤ R.locals) (hst : (rest.map fun v => v.category).sum ≤ 8) (hC : CT l g y cy ny ry fr lo [] M P') (k : ∀ (v : Option Value) (M' : Mem), P' v M' → AT l g own cc nL ret R P n lv (v.toList ++ rest) M') : AT l g own cc nL ret R P pc lv (rest) M := A_callN (as := []) hd hl0 hb0 hi hR hst hC k
theorem A_callV1 {idx q ci : Nat} {fs : Cx → Mem → List Value} {r : vw_C} {x1 : Value} (hd : di cc pc (.invokevirtual idx) 3 n) (hl0 : Cond.methodLink own idx y ∈ gd) (hb0 : MB y cy ny ry 1) (hi : MI y) (hq : OB q ci fs) (hc : cls[ci]? = some r) (hr : r.1 = y.cls) (hR : fr + 1 ≤ R.frames ∧ 8 + (ny + 11) + lo ≤ R.locals) (hst : (rest.map fun v => v.category).sum ≤ 8) (hC : CT l g y cy ny ry fr lo (.ref (g.1 q) :: [x1]) M P') (k : ∀ (v : Option Value) (M' : Mem), P' v M' → AT l g own cc nL ret R P n lv (v.toList ++ rest) M') : AT l g own cc nL ret R P pc lv (x1 :: .ref (g.1 q) :: rest) M := A_callV (as := [x1]) hd hl0 hb0 hi (hr ▸ A_rc hq hc) hR hst hC k
theorem A_callS1 {idx : Nat} {x1 : Value} (hd : di cc pc (.invokestatic idx) 3 n) (hl0 : Cond.methodLink own idx y ∈ gd) (hb0 : MB y cy ny ry 1) (hi : Cond.static y ∈ gd) (hR : fr + 1 ≤ R.frames ∧ 8 + (ny + 11) + lo ≤ R.locals) (hst : (rest.map fun v => v.category).sum ≤ 8) (hC : CT l g y cy ny ry fr lo [x1] M P') (k : ∀ (v : Option Value) (M' : Mem), P' v M' → AT l g own cc nL ret R P n lv (v.toList ++ rest) M') : AT l g own cc nL ret R P pc lv (x1 :: rest) M := A_callS (as := [x1]) hd hl0 hb0 hi hR hst hC k
theorem A_callN1 {idx : Nat} {host : String} {x1 : Value} (hd : di cc pc (.invokestatic idx) 3 n) (hl0 : Cond.methodLinkNest own idx y host ∈ nestW) (hb0 : MB y cy ny ry 1) (hi : Cond.static y ∈ gd) (hR : fr + 1 ≤ R.frames ∧ 8 + (ny + 11) + lo ≤ R.locals) (hst : (rest.map fun v => v.category).sum ≤ 8) (hC : CT l g y cy ny ry fr lo [x1] M P') (k : ∀ (v : Option Value) (M' : Mem), P' v M' → AT l g own cc nL ret R P n lv (v.toList ++ rest) M') : AT l g own cc nL ret R P pc lv (x1 :: rest) M := A_callN (as := [x1]) hd hl0 hb0 hi hR hst hC k
theorem A_callV2 {idx q ci : Nat} {fs : Cx → Mem → List Value} {r : vw_C} {x1 x2 : Value} (hd : di cc pc (.invokevirtual idx) 3 n) (hl0 : Cond.methodLink own idx y ∈ gd) (hb0 : MB y cy ny ry 2) (hi : MI y) (hq : OB q ci fs) (hc : cls[ci]? = some r) (hr : r.1 = y.cls) (hR : fr + 1 ≤ R.frames ∧ 8 + (ny + 11) + lo ≤ R.locals) (hst : (rest.map fun v => v.category).sum ≤ 8) (hC : CT l g y cy ny ry fr lo (.ref (g.1 q) :: [x1, x2]) M P') (k : ∀ (v : Option Value) (M' : Mem), P' v M' → AT l g own cc nL ret R P n lv (v.toList ++ rest) M') : AT l g own cc nL ret R P pc lv (x2 :: x1 :: .ref (g.1 q) :: rest) M := A_callV (as := [x1, x2]) hd hl0 hb0 hi (hr ▸ A_rc hq hc) hR hst hC k
theorem A_callS2 {idx : Nat} {x1 x2 : Value} (hd : di cc pc (.invokestatic idx) 3 n) (hl0 : Cond.methodLink own idx y ∈ gd) (hb0 : MB y cy ny ry 2) (hi : Cond.static y ∈ gd) (hR : fr + 1 ≤ R.frames ∧ 8 + (ny + 11) + lo ≤ R.locals) (hst : (rest.map fun v => v.category).sum ≤ 8) (hC : CT l g y cy ny ry fr lo [x1, x2] M P') (k : ∀ (v : Option Value) (M' : Mem), P' v M' → AT l g own cc nL ret R P n lv (v.toList ++ rest) M') : AT l g own cc nL ret R P pc lv (x2 :: x1 :: rest) M := A_callS (as := [x1, x2]) hd hl0 hb0 hi hR hst hC k
theorem A_callN2 {idx : Nat} {host : String} {x1 x2 : Value} (hd : di cc pc (.invokestatic idx) 3 n) (hl0 : Cond.methodLinkNest own idx y host ∈ nestW) (hb0 : MB y cy ny ry 2) (hi : Cond.static y ∈ gd) (hR : fr + 1 ≤ R.frames ∧ 8 + (ny + 11) + lo ≤ R.locals) (hst : (rest.map fun v => v.category).sum ≤ 8) (hC : CT l g y cy ny ry fr lo [x1, x2] M P') (k : ∀ (v : Option Value) (M' : Mem), P' v M' → AT l g own cc nL ret R P n lv (v.toList ++ rest) M') : AT l g own cc nL ret R P pc lv (x2 :: x1 :: rest) M := A_callN (as := [x1, x2]) hd hl0 hb0 hi hR hst hC k
theorem A_callV3 {idx q ci : Nat} {fs : Cx → Mem → List Value} {r : vw_C} {x1 x2 x3 : Value} (hd : di cc pc (.invokevirtual idx) 3 n) (hl0 : Cond.methodLink own idx y ∈ gd) (hb0 : MB y cy ny ry 3) (hi : MI y) (hq : OB q ci fs) (hc : cls[ci]? = some r) (hr : r.1 = y.cls) (hR : fr + 1 ≤ R.frames ∧ 8 + (ny + 11) + lo ≤ R.locals) (hst : (rest.map fun v => v.category).sum ≤ 8) (hC : CT l g y cy ny ry fr lo (.ref (g.1 q) :: [x1, x2, x3]) M P') (k : ∀ (v : Option Value) (M' : Mem), P' v M' → AT l g own cc nL ret R P n lv (v.toList ++ rest) M') : AT l g own cc nL ret R P pc lv (x3 :: x2 :: x1 :: .ref (g.1 q) :: rest) M := A_callV (as := [x1, x2, x3]) hd hl0 hb0 hi (hr ▸ A_rc hq hc) hR hst hC k
theorem A_callS3 {idx : Nat} {x1 x2 x3 : Value} (hd : di cc pc (.invokestatic idx) 3 n) (hl0 : Cond.methodLink own idx y ∈ gd) (hb0 : MB y cy ny ry 3) (hi : Cond.static y ∈ gd) (hR : fr + 1 ≤ R.frames ∧ 8 + (ny + 11) + lo ≤ R.locals) (hst : (rest.map fun v => v.category).sum ≤ 8) (hC : CT l g y cy ny ry fr lo [x1, x2, x3] M P') (k : ∀ (v : Option Value) (M' : Mem), P' v M' → AT l g own cc nL ret R P n lv (v.toList ++ rest) M') : AT l g own cc nL ret R P pc lv (x3 :: x2 :: x1 :: rest) M := A_callS (as := [x1, x2, x3]) hd hl0 hb0 hi hR hst hC k
theorem A_callN3 {idx : Nat} {host : String} {x1 x2 x3 : Value} (hd : di cc pc (.invokestatic idx) 3 n) (hl0 : Cond.methodLinkNest own idx y host ∈ nestW) (hb0 : MB y cy ny ry 3) (hi : Cond.static y ∈ gd) (hR : fr + 1 ≤ R.frames ∧ 8 + (ny + 11) + lo ≤ R.locals) (hst : (rest.map fun v => v.category).sum ≤ 8) (hC : CT l g y cy ny ry fr lo [x1, x2, x3] M P') (k : ∀ (v : Option Value) (M' : Mem), P' v M' → AT l g own cc nL ret R P n lv (v.toList ++ rest) M') : AT l g own cc nL ret R P pc lv (x3 :: x2 :: x1 :: rest) M := A_callN (as := [x1, x2, x3]) hd hl0 hb0 hi hR hst hC k
theorem A_callV4 {idx q ci : Nat} {fs : Cx → Mem → List Value} {r : vw_C} {x1 x2 x3 x4 : Value} (hd : di cc pc (.invokevirtual idx) 3 n) (hl0 : Cond.methodLink own idx y ∈ gd) (hb0 : MB y cy ny ry 4) (hi : MI y) (hq : OB q ci fs) (hc : cls[ci]? = some r) (hr : r.1 = y.cls) (hR : fr + 1 ≤ R.frames ∧ 8 + (ny + 11) + lo ≤ R.locals) (hst : (rest.map fun v => v.category).sum ≤ 8) (hC : CT l g y cy ny ry fr lo (.ref (g.1 q) :: [x1, x2, x3, x4]) M P') (k : ∀ (v : Option Value) (M' : Mem), P' v M' → AT l g own cc nL ret R P n lv (v.toList ++ rest) M') : AT l g own cc nL ret R P pc lv (x4 :: x3 :: x2 :: x1 :: .ref (g.1 q) :: rest) M := A_callV (as := [x1, x2, x3, x4]) hd hl0 hb0 hi (hr ▸ A_rc hq hc) hR hst hC k
theorem A_callS4 {idx : Nat} {x1 x2 x3 x4 : Value} (hd : di cc pc (.invokestatic idx) 3 n) (hl0 : Cond.methodLink own idx y ∈ gd) (hb0 : MB y cy ny ry 4) (hi : Cond.static y ∈ gd) (hR : fr + 1 ≤ R.frames ∧ 8 + (ny + 11) + lo ≤ R.locals) (hst : (rest.map fun v => v.category).sum ≤ 8) (hC : CT l g y cy ny ry fr lo [x1, x2, x3, x4] M P') (k : ∀ (v : Option Value) (M' : Mem), P' v M' → AT l g own cc nL ret R P n lv (v.toList ++ rest) M') : AT l g own cc nL ret R P pc lv (x4 :: x3 :: x2 :: x1 :: rest) M := A_callS (as := [x1, x2, x3, x4]) hd hl0 hb0 hi hR hst hC k
theorem A_callN4 {idx : Nat} {host : String} {x1 x2 x3 x4 : Value} (hd : di cc pc (.invokestatic idx) 3 n) (hl0 : Cond.methodLinkNest own idx y host ∈ nestW) (hb0 : MB y cy ny ry 4) (hi : Cond.static y ∈ gd) (hR : fr + 1 ≤ R.frames ∧ 8 + (ny + 11) + lo ≤ R.locals) (hst : (rest.map fun v => v.category).sum ≤ 8) (hC : CT l g y cy ny ry fr lo [x1, x2, x3, x4] M P') (k : ∀ (v : Option Value) (M' : Mem), P' v M' → AT l g own cc nL ret R P n lv (v.toList ++ rest) M') : AT l g own cc nL ret R P pc lv (x4 :: x3 :: x2 :: x1 :: rest) M := A_callN (as := [x1, x2, x3, x4]) hd hl0 hb0 hi hR hst hC k
end CALLS
