/-! THE CLAIM OUT OF ONE WALK OF THE LAW'S BODY. Your part is whole_start (and what it stands on); all else here is the same for every law, but numbers. -/
def R_law : String := "BenchTimesLaw"
def lw_P (b : Addr) (xs : List Int32) (args : Array Value) (s : State) : Prop := args = #[.ref b] ∧ s.IntsAt b xs ∧ xs.length ≤ 2560 ∧ (Jvm.Cond.and given_1 narrow_1).before args s = true
def lw_Q (_ : Array Value) (s : State) (o : Outcome) (t : State) : Prop := o = .returned (some (.int 1)) ∧ Framed s o t [] 600000 7302250
def lw_Z (below : List Frame) (a : Array Value) (s : State) : State → Prop := fun t => ∃ o, t.status = .running ∧ Ended t below o ∧ lw_Q a s o t
/-- the law's own end, with 1 on the stack, nothing written that was there before, its room as the claim has it -/
theorem lw_ret {p : Program} {l : Launch} {e : Env} {s : State} {m : MethodId} {below : List Frame} {meth : Method} {c : Code} {b : Nat} (hx : p.tables.exec = Jvm.exec) (hb : c.code = code) (hr : meth.sig.returnType = ret) (hlocks : meth.locks = false) {pc : Nat} {H : Heap} {ls : Array Slot} (hdg : decode code pc = .ok (.ireturn, 1)) : W p l e room_1 s m #[Value.ref b] below meth c H [] 600000 7302250 (lw_Z below #[Value.ref b] s) (F0 m pc ls [.int 1]) := by
  intro T hT X
  obtain ⟨fs, hret, hrun, hended, hW, hframe⟩ := X.leave (v := some (.int 1)) (hlocks := hlocks) (fun h => by rw [hr] at h; cases h)
  have hmeth' : T.vm.method? m = some meth := X.method'
  refine ⟨T.setFrames fs, ?_, .returned (some (.int 1)), hrun, hended, rfl, ⟨_, rfl⟩, hW, hframe⟩
  jvm_step X.here [X.here.top, hx, hb, hdg, hmeth', hr, ret, narrow_b1]
  (try refine ⟨rfl, ?_⟩); (try refine ⟨rfl, ?_⟩)
  first | (intro acts; rw [hret _ acts rfl rfl rfl]) | rw [hret _ _ rfl rfl rfl]
  exact Steps.refl _
/-- what holds at the law's entry: the machine, the code, the tables' words (any of lw_tbl by 'hts w (by decide +kernel)'), the script of L ints xs at the cell b, what the Statement gives of the start (any of its parts by flat_of_before) -/
def lw_At (p : Program) (s : State) (m : MethodId) (meth : Method) (c : Code) (b L : Nat) (xs : Nat → Int32) : Prop :=
  p.tables.exec = Jvm.exec ∧ c.code = code ∧ meth.sig.returnType = ret ∧ c.maxLocals = 4 ∧ s.vm.findClass R_law = some m.cls ∧ (∀ w ∈ lw_tbl, w.before #[Value.ref b] s = true) ∧ va_X b L xs s s.heap ∧ b < s.heap.size ∧ meth.locks = false ∧ (Jvm.Cond.and given_1 narrow_1).before #[Value.ref b] s = true

def LX (p : Program) (s : State) (m : MethodId) (meth : Method) (c : Code) (g : Cx) (b L : Nat) (xs : Nat → Int32) : Prop :=
  p.tables.exec = Jvm.exec ∧ c.code = code ∧ meth.sig.returnType = Jvm.Pilot.CBenchTimesLaw_law_r9942_fd0f03.ret ∧ c.maxLocals = 4 ∧ s.vm.findClass R_law = some m.cls ∧ meth.locks = false ∧ (∀ w ∈ gd, w.before #[Value.ref b] s = true) ∧ va_X b L xs s s.heap ∧ b < s.heap.size ∧ va_K g.2.1 cls (tysG g) s ∧ DJ g ∧ ST g (inW g) s s.heap ∧ ∀ q : Nat, inW g q → s.heap.size ≤ q
def LT (l : Launch) (g : Cx) (b L : Nat) (xs : Nat → Int32) (cells slots : Nat) (pc : Nat) (lv : List (Option Value)) (st : List Value) (M : Mem) : Prop :=
  ∀ (p : Program) (e : Env) (s : State) (m : MethodId) (below : List Frame) (meth : Method) (c : Code) (H : Heap) (locs : List Loc) (ls : Array Slot),
    LX p s m meth c g b L xs → va_P g.2.1 cls (wl g M) H → va_S (fun q : Nat => s.heap.size ≤ q) s.heap H locs → lv_has ls 4 (lvA 0 lv) →
    W p l e room_1 s m #[Value.ref b] below meth c H locs cells slots (lw_Z below #[Value.ref b] s) (F0 m pc ls st)
section LROWS
variable {l : Launch} {g : Cx} {b L : Nat} {xs : Nat → Int32} {cells slots : Nat} {pc n : Nat} {lv : List (Option Value)} {st : List Value} {M : Mem}
theorem L_iconst {z : Int} {v : Int32} (hd : di code pc (.iconst z) 1 n) (hv : Int32.ofInt z = v) (k : LT l g b L xs cells slots n lv (.int v :: st) M) : LT l g b L xs cells slots pc lv (st) M := fun p e s m below meth c H locs ls C hP hS hl => by
  obtain ⟨hd, rfl⟩ := hd
  exact lv_iconst C.1 C.2.1 hd hv (k p e s m below meth c H locs ls C hP hS hl)
theorem L_bipush {z : Int} {v : Int32} (hd : di code pc (.bipush z) 2 n) (hv : (Int8.ofInt z).toInt32 = v) (k : LT l g b L xs cells slots n lv (.int v :: st) M) : LT l g b L xs cells slots pc lv (st) M := fun p e s m below meth c H locs ls C hP hS hl => by
  obtain ⟨hd, rfl⟩ := hd
  exact lv_bipush C.1 C.2.1 hd hv (k p e s m below meth c H locs ls C hP hS hl)
theorem L_iadd {x y : Int32} (hd : di code pc (.iadd) 1 n) (k : LT l g b L xs cells slots n lv (.int (x + y) :: st) M) : LT l g b L xs cells slots pc lv (.int y :: .int x :: st) M := fun p e s m below meth c H locs ls C hP hS hl => by
  obtain ⟨hd, rfl⟩ := hd
  exact lv_iadd C.1 C.2.1 hd (k p e s m below meth c H locs ls C hP hS hl)
theorem L_isub {x y : Int32} (hd : di code pc (.isub) 1 n) (k : LT l g b L xs cells slots n lv (.int (x - y) :: st) M) : LT l g b L xs cells slots pc lv (.int y :: .int x :: st) M := fun p e s m below meth c H locs ls C hP hS hl => by
  obtain ⟨hd, rfl⟩ := hd
  exact lv_isub C.1 C.2.1 hd (k p e s m below meth c H locs ls C hP hS hl)
theorem L_iand {x y : Int32} (hd : di code pc (.iand) 1 n) (k : LT l g b L xs cells slots n lv (.int (x &&& y) :: st) M) : LT l g b L xs cells slots pc lv (.int y :: .int x :: st) M := fun p e s m below meth c H locs ls C hP hS hl => by
  obtain ⟨hd, rfl⟩ := hd
  exact lv_iand C.1 C.2.1 hd (k p e s m below meth c H locs ls C hP hS hl)
theorem L_iload_n {i : Fin 4} {x : Int32} (hd : di code pc (.iload_n i) 1 n) (hi : lv[(i : Nat)]? = some (some (.int x))) (k : LT l g b L xs cells slots n lv (.int x :: st) M) : LT l g b L xs cells slots pc lv st M := fun p e s m below meth c H locs ls C hP hS hl => by
  obtain ⟨hd, rfl⟩ := hd
  have hq := hl.2.2 _ (lvA_at lv 0 _ _ hi)
  rw [Nat.zero_add] at hq
  exact lv_iload_n C.1 C.2.1 hd rfl hq (k p e s m below meth c H locs ls C hP hS hl)
theorem L_aload_n {i : Fin 4} {x : Nat} (hd : di code pc (.aload_n i) 1 n) (hi : lv[(i : Nat)]? = some (some (.ref x))) (k : LT l g b L xs cells slots n lv (.ref x :: st) M) : LT l g b L xs cells slots pc lv st M := fun p e s m below meth c H locs ls C hP hS hl => by
  obtain ⟨hd, rfl⟩ := hd
  have hq := hl.2.2 _ (lvA_at lv 0 _ _ hi)
  rw [Nat.zero_add] at hq
  exact lv_aload_n C.1 C.2.1 hd rfl hq (k p e s m below meth c H locs ls C hP hS hl)
theorem L_sld {i : Int32} (hd : di code pc .iaload 1 n) (hi : vp_in i L) (k : LT l g b L xs cells slots n lv (.int (xs i.toNatClampNeg) :: st) M) : LT l g b L xs cells slots pc lv (.int i :: .ref b :: st) M := fun p e s m below meth c H locs ls C hP hS hl => by
  obtain ⟨hd, rfl⟩ := hd
  exact va_sld C.1 C.2.1 C.2.2.2.2.2.2.2.1 C.2.2.2.2.2.2.2.2.1 (Nat.not_le.mpr C.2.2.2.2.2.2.2.2.1) hS hi hd (k p e s m below meth c H locs ls C hP hS hl)
theorem L_slen (hd : di code pc .arraylength 1 n) (k : LT l g b L xs cells slots n lv (.int (nI L) :: st) M) : LT l g b L xs cells slots pc lv (.ref b :: st) M := fun p e s m below meth c H locs ls C hP hS hl => by
  obtain ⟨hd, rfl⟩ := hd
  exact va_slen C.1 C.2.1 C.2.2.2.2.2.2.2.1 C.2.2.2.2.2.2.2.2.1 (Nat.not_le.mpr C.2.2.2.2.2.2.2.2.1) hS hd (k p e s m below meth c H locs ls C hP hS hl)
theorem L_icmp_gt {x y : Int32} {tgt : Nat} (hd : dj code pc (.if_icmp .gt) n tgt) (kt : y < x → LT l g b L xs cells slots tgt lv st M) (kf : ¬ y < x → LT l g b L xs cells slots n lv st M) : LT l g b L xs cells slots pc lv (.int y :: .int x :: st) M := fun p e s m below meth c H locs ls C hP hS hl => by
  obtain ⟨off, hd, rfl, ht⟩ := hd
  exact lv_icmp_gt C.1 C.2.1 hd ht (fun h => kt h p e s m below meth c H locs ls C hP hS hl) (fun h => kf h p e s m below meth c H locs ls C hP hS hl)
theorem L_icmp_eq {x : Int32} {tgt : Nat} (hd : dj code pc (.if_icmp .eq) n tgt) (kt : LT l g b L xs cells slots tgt lv st M) : LT l g b L xs cells slots pc lv (.int x :: .int x :: st) M := fun p e s m below meth c H locs ls C hP hS hl => by
  obtain ⟨off, hd, rfl, ht⟩ := hd
  exact lv_icmp_eq C.1 C.2.1 hd ht (fun _ => kt p e s m below meth c H locs ls C hP hS hl) (fun h => absurd rfl h)
theorem L_goto {tgt : Nat} (hd : dj code pc .goto n tgt) (k : LT l g b L xs cells slots tgt lv st M) : LT l g b L xs cells slots pc lv st M := fun p e s m below meth c H locs ls C hP hS hl => by
  obtain ⟨off, hd, rfl, ht⟩ := hd
  exact lv_goto C.1 C.2.1 hd ht (k p e s m below meth c H locs ls C hP hS hl)
theorem L_iinc {i : Nat} {z : Int} {x d : Int32} (hd : di code pc (.iinc i z) 3 n) (hi : lv[i]? = some (some (.int x))) (hv : Int32.ofInt z = d) (hn : i < 4) (hp : ∀ x, i ≠ 0 → lv[i - 1]? = some x → okp x = true) (k : LT l g b L xs cells slots n (lv.set i (some (.int (x + d)))) st M) : LT l g b L xs cells slots pc lv st M := fun p e s m below meth c H locs ls C hP hS hl => by
  obtain ⟨hd, rfl⟩ := hd
  have hq := lvA_at lv 0 _ _ hi
  rw [Nat.zero_add] at hq
  obtain ⟨k0, hk0⟩ := List.getElem?_of_mem hq
  exact lv_iinc C.1 C.2.1 hd hl hk0 (by rw [hv]) hn rfl (fun ls2 hl2 => k p e s m below meth c H locs ls2 C hP hS (lv_more hl2 (lv_keep1 hp)))
theorem L_tsIn {x : Int32} {lo hi : Int} {dfl tgt k0 : Nat} {tg : List Nat} (hd : dts code pc lo hi dfl tg) (hx : ¬ x.toInt < lo ∧ ¬ hi < x.toInt ∧ (x.toInt - lo).toNat = k0) (ht : tg[k0]? = some tgt) (k : LT l g b L xs cells slots tgt lv st M) : LT l g b L xs cells slots pc lv (.int x :: st) M := fun p e s m below meth c H locs ls C hP hS hl => by
  obtain ⟨d, offs, len, hd, h0, h1⟩ := hd
  have h2 : (offs.toList.map (fun z => (pc : Int) + z))[k0]? = some (tgt : Int) := by rw [h1, List.getElem?_map, ht]; rfl
  rw [List.getElem?_map] at h2
  cases ho : offs.toList[k0]? with
  | none => rw [ho] at h2; cases h2
  | some off =>
    rw [ho] at h2
    exact lv_tableIn C.1 C.2.1 hd hx.1 hx.2.1 (by rw [hx.2.2, ← Array.getElem?_toList]; exact ho) (Option.some.inj h2) (k p e s m below meth c H locs ls C hP hS hl)
theorem L_tsOut {x : Int32} {lo hi : Int} {dfl : Nat} {tg : List Nat} (hd : dts code pc lo hi dfl tg) (hx : x.toInt < lo ∨ hi < x.toInt) (k : LT l g b L xs cells slots dfl lv st M) : LT l g b L xs cells slots pc lv (.int x :: st) M := fun p e s m below meth c H locs ls C hP hS hl => by
  obtain ⟨d, offs, len, hd, h0, h1⟩ := hd
  exact lv_tableOut C.1 C.2.1 hd hx h0 (k p e s m below meth c H locs ls C hP hS hl)
theorem L_call {y : MethodName} {cy : ByteArray} {ny : Nat} {ry : Option FieldType} {fr lo : Nat} {as rest : List Value} {r1 : Int32} {M1 : Mem} {idx q ci : Nat} {fs : Cx → Mem → List Value} {r : vw_C} (hd : di code pc (.invokevirtual idx) 3 n) (hl0 : Cond.methodLink R_law idx y ∈ gd) (hb0 : MB y cy ny ry as.length) (hi : MI y) (hq : OB q ci fs) (hc : cls[ci]? = some r) (hr : r.1 = y.cls)
    (hR : fr + 1 ≤ room_1.frames ∧ 8 + (ny + 11) + lo ≤ room_1.locals) (hst : (rest.map fun v => v.category).sum ≤ 8) (hcs : cells + 0 ≤ room_1.cells ∧ slots + 0 ≤ room_1.slots) (hC : CT l g y cy ny ry fr lo (.ref (g.1 q) :: as) M (PI r1 M1))
    (k : LT l g b L xs cells slots n lv (.int r1 :: rest) M1) : LT l g b L xs cells slots pc lv (as.reverse ++ .ref (g.1 q) :: rest) M := fun p e s m below meth c H locs ls C hP hS hl => by
  obtain ⟨hd, rfl⟩ := hd
  obtain ⟨hx, hcd, hrt, hml, hown, hlk, hts, hX, hbl, hK, hJ, hT, hin⟩ := id C
  have hG : GoodIn gd (wsV R_law idx y.cls y (Cond.code y cy ny ry :: gd)) := by
    intro w hw
    unfold wsV at hw
    simp only [List.mem_append, List.mem_cons, List.not_mem_nil, or_false] at hw
    rcases hw with (rfl | rfl | rfl | rfl) | (rfl | hw)
    · exact gd_good hl0
    · exact gd_good hi.1
    · exact gd_good hi.2
    · exact gd_good hb0.1
    · exact gd_good hb0.2.1
    · exact gd_good hw
  have hkq : ∀ a : Nat, a < s.heap.size → ¬ inW g a → H[a]? = s.heap[a]? := fun a h1 _ => hS.2.1 a h1 (Nat.not_le.mpr h1)
  have hr0 := va_runV (As := as) (rest := rest) (Ts := gd) (C := y.cls) (g := F0 m pc ls (as.reverse ++ .ref (g.1 q) :: rest)) (cells := cells) (slots := slots) (below := below) (meth := meth) (locs := locs) (p := p) (e := e) ⟨hx, hcd, hml, hown, hts⟩ hC (cwV as.length hts hG rfl rfl rfl ⟨rfl, hb0.2.2⟩ hR) ⟨A_blind, hr ▸ va_recv hK hP hc (hq g M), fun U hU hW => ⟨rfl, by rw [hU]; exact hP, va_K.moved hW.alike hK, hJ, by rw [hU]; exact hT.go hW hkq⟩⟩ rfl rfl hl.1 rfl (lv_room hst) hd hcs
  intro T hTT X
  obtain ⟨v, st₀, t, T', LL, h0, X', hL, e1, e2, ⟨⟨r', M', hv, hp, hb⟩, hz, hk⟩, st2⟩ := hr0 T hTT X
  cases hv
  obtain ⟨rfl, rfl⟩ := hp
  rw [h0] at hz hk
  obtain ⟨t2, a1, b1⟩ := k p e s m below meth c T'.heap (locs ++ LL) ls C (by rw [e1]; exact hb)
    ⟨Nat.le_trans hS.1 (by rw [e1]; exact hz), fun q h1 h2 => by rw [e1, hk q (Nat.lt_of_lt_of_le h1 hS.1) (fun z => h2 (hin q z))]; exact hS.2.1 q h1 h2, fun q hq => by
      rcases List.mem_append.mp hq with h | h
      · exact hS.2.2 q h
      · exact hin _ (hL q h)⟩ hl T' rfl X'
  exact ⟨t2, st2 t2 a1, b1⟩
/-- the end: true -/
theorem L_ret1 (hd : di code pc .ireturn 1 n) (hc : cells ≤ 600000) (hs : slots ≤ 7302250) : LT l g b L xs cells slots pc lv [.int 1] M := fun p e s m below meth c H locs ls C hP hS hl => by
  obtain ⟨hd, rfl⟩ := hd
  exact va_forget (fun q hq => hS.2.2 q hq) (W.widen hc hs (lw_ret C.1 C.2.1 C.2.2.1 C.2.2.2.2.2.1 hd))
end LROWS
