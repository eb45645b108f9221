/-! CONSTRUCTORS: worlds that grow -/
abbrev tysC (ca : Nat → ClassId) : List (ClassId × FieldType) := [(ca 0, .int), (ca 1, .boolean), (ca 2, .long), (ca 3, .array .int)]
def nestI : List Cond := [.methodLinkNest RX10 15 yX1_init "BenchTimes", .methodLinkNest RX10 31 yX2_init "BenchTimes", .methodLinkNest RX10 47 yX5_init "BenchTimes", .methodLinkNest RX10 63 yX7_init "BenchTimes"]
def AOI (U : State) : Prop := (Cond.arrayOver (.array .int)).before #[] U = true
def isArr (comp : ClassId) (x : Class) : Bool := match x.kind with
  | .array component _ => component == comp
  | _ => false
def isAr2 (U : State) (c : Nat) (k : Class) : Bool := match k.kind with
  | .array _ ty => decide (ty = FieldType.array .int) && decide (U.vm.findClass ("[" ++ (FieldType.array .int).toString) = some c)
  | _ => false
theorem AOI.iff (U : State) : AOI U ↔ ((U.vm.findClass (FieldType.array .int).toString).bind fun comp => (U.vm.classes.findIdx? (isArr comp)).bind fun c => (U.vm.classes[c]?).map (isAr2 U c)) = some true := by
  unfold AOI Cond.before Cond.holds
  rw [beq_iff_eq]
  exact Iff.rfl
theorem AOI.moved {u U : State} (hvm : u.vm.Alike U.vm) (h : AOI u) : AOI U := by
  rw [AOI.iff] at h ⊢
  rw [hvm.findClass]
  cases hc : u.vm.findClass (FieldType.array .int).toString with
  | none => rw [hc] at h; cases h
  | some comp =>
    rw [hc, Option.bind_some] at h
    rw [Option.bind_some]
    have b1 : U.vm.bare.classes.findIdx? (isArr comp) = U.vm.classes.findIdx? (isArr comp) := va_idx_bare U.vm comp
    have b2 : u.vm.bare.classes.findIdx? (isArr comp) = u.vm.classes.findIdx? (isArr comp) := va_idx_bare u.vm comp
    rw [hvm.bare_eq, b2] at b1
    rw [← b1]
    cases hi : u.vm.classes.findIdx? (isArr comp) with
    | none => rw [hi] at h; cases h
    | some c0 =>
      rw [hi, Option.bind_some] at h
      rw [Option.bind_some]
      cases hk : u.vm.classes[c0]? with
      | none => rw [hk] at h; cases h
      | some k0 =>
        rw [hk] at h
        obtain ⟨k', hk', he⟩ := hvm.2.2 _ _ hk
        rw [hk']
        have ek : k'.kind = k0.kind := by rw [he]
        have e2 : isAr2 U c0 k' = isAr2 u c0 k0 := by
          unfold isAr2
          rw [ek, hvm.findClass]
        rw [Option.map_some] at h ⊢
        rw [e2]
        exact h
theorem fm_of {β : Type} {f : Nat → Option β} : ∀ {l : List Nat} {w : List β}, l.map f = w.map some → l.filterMap f = w
  | [], [], _ => rfl
  | [], _ :: _, h => by simp at h
  | _ :: _, [], h => by simp at h
  | a :: l, b :: w, h => by
    simp only [List.map_cons, List.cons.injEq] at h
    rw [List.filterMap_cons, h.1, fm_of h.2]
def KC (G : va_G) (ca : Nat → ClassId) (U : State) : Prop := va_K G cls (tysC ca) U ∧ (∀ w ∈ nestI, va_Nw w U) ∧ AOI U
theorem KC.warm {G : va_G} {ca : Nat → ClassId} {s U : State} (hW : s.WarmedH U.vm) (h : KC G ca s) : KC G ca U := by
  refine ⟨va_K.moved hW.alike h.1, fun w hw => ?_, h.2.2.moved hW.alike⟩
  have hn := h.2.1 w hw
  simp only [nestI, List.mem_cons, List.not_mem_nil, or_false] at hw
  rcases hw with rfl | rfl | rfl | rfl <;> exact va_Nw.warmM hW hn
theorem KC.same {G : va_G} {ca : Nat → ClassId} {u U : State} (hv : U.vm = u.vm) (h : KC G ca u) : KC G ca U := by
  have hA : u.vm.Alike U.vm := by rw [hv]; exact Vm.Alike.refl u.vm
  refine ⟨va_K.moved hA h.1, fun w hw => ?_, h.2.2.moved hA⟩
  have hn := h.2.1 w hw
  simp only [nestI, List.mem_cons, List.not_mem_nil, or_false] at hw
  rcases hw with rfl | rfl | rfl | rfl <;> exact va_Nw.same rfl hv.symm hn
def CN (p : Program) (s : State) (m : MethodId) (args : Array Value) (meth : Method) (c : Code) (G : va_G) (ca : Nat → ClassId) (own : String) (cc : ByteArray) (nL : Nat) (ini : Bool) (A : Nat → Prop) : Prop :=
  p.tables.exec = Jvm.exec ∧ c.code = cc ∧ meth.sig.returnType = none ∧ c.maxLocals = nL ∧ s.vm.findClass own = some m.cls ∧ meth.locks = false ∧ (∀ w ∈ gd, w.before args s = true) ∧ KC G ca s ∧ (∀ q : Nat, s.heap.size ≤ q → A q) ∧ (ini = true → meth.name = "<init>")
def NT (l : Launch) (G : va_G) (ca : Nat → ClassId) (own : String) (cc : ByteArray) (nL : Nat) (ini : Bool) (R : Room) (Qc : (Nat → Prop) → Array Value → State → Outcome → State → Prop) (mF sF : Nat) (pc : Nat) (lv : List (Option Value)) (st : List Value) (ws : va_W) (cells slots : Nat) : Prop :=
  ∀ (p : Program) (e : Env) (s : State) (m : MethodId) (args : Array Value) (below : List Frame) (meth : Method) (c : Code) (H : Heap) (locs : List Loc) (ls : Array Slot) (A : Nat → Prop),
    CN p s m args meth c G ca own cc nL ini A → va_P G cls ws H → va_D A ws → va_S A s.heap H locs → lv_has ls nL (lvA 0 lv) →
    W p l e R s m args below meth c H locs cells slots (MQ below (Qc A) args s mF sF A) (F0 m pc ls st)
abbrev rmC (fr mc ms lo : Nat) : Room := { frames := fr, cells := mc, slots := ms, locals := lo }
/-- behind a constructor: its cells, the new ones at the addresses u -/
def QN (G : va_G) (out : (Nat → Nat) → va_W) (A : Nat → Prop) : Array Value → State → Outcome → State → Prop := va_Qv (fun _ : Nat → Nat => True) (fun u t => va_P G cls (out u) t.heap ∧ va_D A (out u)) A
def CI (l : Launch) (G : va_G) (ca : Nat → ClassId) (y : MethodName) (cy : ByteArray) (ny fr lo mc ms : Nat) (as : List Value) (w0 : va_W) (out : (Nat → Nat) → va_W) : Prop :=
  ∀ sz : Nat, Met l y (.code y cy ny none :: gd) (rmC fr mc ms lo) (va_Pc as (fun U => U.heap.size = sz ∧ va_P G cls w0 U.heap ∧ va_D (fun _ => True) w0 ∧ KC G ca U)) (QN G out (va_A w0 sz)) mc ms (va_A w0 sz)
theorem CI_of {l : Launch} {G : va_G} {ca : Nat → ClassId} {y : MethodName} {cy : ByteArray} {ny fr lo mc ms : Nat} {as : List Value} {w0 : va_W} {out : (Nat → Nat) → va_W} {lv : List (Option Value)} {ini : Bool} (hy : plainName y.cls = true) (hini : ini = true → y.name = "<init>") (hlv : lv_args 0 as = lvA 0 lv) (hn : (lg_sl as).length ≤ ny)
    (h : NT l G ca y.cls cy ny ini (rmC fr mc ms lo) (fun A => QN G out A) mc ms 0 lv [] w0 0 0) : CI l G ca y cy ny fr lo mc ms as w0 out := by
  intro sz
  refine Met.ofW (cc := cy) (maxL := ny) (ret := none) hy rfl ?_
  intro p e s m args below meth c s₁ B hml hv
  obtain ⟨rfl, hsz, hP, hD, hK⟩ := hv
  subst hsz
  have hts := atoms_spec (ws := Cond.code y cy ny none :: gd) B.pre
  have hown : s.vm.findClass y.cls = some m.cls := findClass_of_methodNamed B.named
  have hl := lv_entry as (n := ny) hn
  rw [lg_entry_eq]
  rw [hlv] at hl
  exact h p e s m _ below meth c s.heap [] _ _ ⟨B.exec, B.bytes, B.returns, hml, hown, B.notSynchronized, fun w hw => hts w (List.mem_cons_of_mem _ hw), hK, fun q h => Or.inr h, fun hi => ((name_of_methodNamed B.named B.method).1).trans (hini hi)⟩ hP hD.self va_S.rf hl
section NROWS
variable {l : Launch} {G : va_G} {ca : Nat → ClassId} {own : String} {cc : ByteArray} {nL : Nat} {ini : Bool} {R : Room} {Qc : (Nat → Prop) → Array Value → State → Outcome → State → Prop} {mF sF : Nat} {pc n : Nat} {lv : List (Option Value)} {st : List Value} {ws : va_W} {cells slots : Nat}
theorem N_iconst {z : Int} {v : Int32} (hd : di cc pc (.iconst z) 1 n) (hv : Int32.ofInt z = v) (k : NT l G ca own cc nL ini R Qc mF sF n lv (.int v :: st) ws cells slots) : NT l G ca own cc nL ini R Qc mF sF pc lv (st) ws cells slots := fun p e s m args below meth c H locs ls A C hP hD hS hl => by
  obtain ⟨hd, rfl⟩ := hd
  exact lv_iconst C.1 C.2.1 hd hv (k p e s m args below meth c H locs ls A C hP hD hS hl)
theorem N_bipush {z : Int} {v : Int32} (hd : di cc pc (.bipush z) 2 n) (hv : (Int8.ofInt z).toInt32 = v) (k : NT l G ca own cc nL ini R Qc mF sF n lv (.int v :: st) ws cells slots) : NT l G ca own cc nL ini R Qc mF sF pc lv (st) ws cells slots := fun p e s m args below meth c H locs ls A C hP hD hS hl => by
  obtain ⟨hd, rfl⟩ := hd
  exact lv_bipush C.1 C.2.1 hd hv (k p e s m args below meth c H locs ls A C hP hD hS hl)
theorem N_sipush {z : Int} {v : Int32} (hd : di cc pc (.sipush z) 3 n) (hv : (Int16.ofInt z).toInt32 = v) (k : NT l G ca own cc nL ini R Qc mF sF n lv (.int v :: st) ws cells slots) : NT l G ca own cc nL ini R Qc mF sF pc lv (st) ws cells slots := fun p e s m args below meth c H locs ls A C hP hD hS hl => by
  obtain ⟨hd, rfl⟩ := hd
  exact lv_sipush C.1 C.2.1 hd hv (k p e s m args below meth c H locs ls A C hP hD hS hl)
theorem N_dup {v : Value} (hd : di cc pc (.dup) 1 n) (hv : v.category = 1) (k : NT l G ca own cc nL ini R Qc mF sF n lv (v :: v :: st) ws cells slots) : NT l G ca own cc nL ini R Qc mF sF pc lv (v :: st) ws cells slots := fun p e s m args below meth c H locs ls A C hP hD hS hl => by
  obtain ⟨hd, rfl⟩ := hd
  exact lv_dup C.1 C.2.1 hd hv (k p e s m args below meth c H locs ls A C hP hD hS hl)
theorem N_iload_n {i : Fin 4} {x : Int32} (hd : di cc pc (.iload_n i) 1 n) (hi : lv[(i : Nat)]? = some (some (.int x))) (k : NT l G ca own cc nL ini R Qc mF sF n lv (.int x :: st) ws cells slots) : NT l G ca own cc nL ini R Qc mF sF pc lv st ws cells slots := fun p e s m args below meth c H locs ls A C hP hD hS hl => by
  obtain ⟨hd, rfl⟩ := hd
  have hq := hl.2.2 _ (lvA_at lv 0 _ _ hi)
  rw [Nat.zero_add] at hq
  exact lv_iload_n C.1 C.2.1 hd rfl hq (k p e s m args below meth c H locs ls A C hP hD hS hl)
theorem N_aload_n {i : Fin 4} {x : Nat} (hd : di cc pc (.aload_n i) 1 n) (hi : lv[(i : Nat)]? = some (some (.ref x))) (k : NT l G ca own cc nL ini R Qc mF sF n lv (.ref x :: st) ws cells slots) : NT l G ca own cc nL ini R Qc mF sF pc lv st ws cells slots := fun p e s m args below meth c H locs ls A C hP hD hS hl => by
  obtain ⟨hd, rfl⟩ := hd
  have hq := hl.2.2 _ (lvA_at lv 0 _ _ hi)
  rw [Nat.zero_add] at hq
  exact lv_aload_n C.1 C.2.1 hd rfl hq (k p e s m args below meth c H locs ls A C hP hD hS hl)
theorem N_istore_n {i : Fin 4} {x : Int32} (hd : di cc pc (.istore_n i) 1 n) (hn : (i : Nat) < nL) (hp : ∀ x, (i : Nat) ≠ 0 → lv[(i : Nat) - 1]? = some x → okp x = true) (k : NT l G ca own cc nL ini R Qc mF sF n (lv.set (i : Nat) (some (.int x))) st ws cells slots) : NT l G ca own cc nL ini R Qc mF sF pc lv (.int x :: st) ws cells slots := fun p e s m args below meth c H locs ls A C hP hD hS hl => by
  obtain ⟨hd, rfl⟩ := hd
  exact lv_istore_n C.1 C.2.1 hd rfl hl hn rfl (fun ls2 hl2 => k p e s m args below meth c H locs ls2 A C hP hD hS (lv_more hl2 (lv_keep1 hp)))
theorem N_iinc {i : Nat} {z : Int} {x d : Int32} (hd : di cc pc (.iinc i z) 3 n) (hi : lv[i]? = some (some (.int x))) (hv : Int32.ofInt z = d) (hn : i < nL) (hp : ∀ x, i ≠ 0 → lv[i - 1]? = some x → okp x = true) (k : NT l G ca own cc nL ini R Qc mF sF n (lv.set i (some (.int (x + d)))) st ws cells slots) : NT l G ca own cc nL ini R Qc mF sF pc lv st ws cells slots := fun p e s m args below meth c H locs ls A C hP hD hS hl => by
  obtain ⟨hd, rfl⟩ := hd
  have hq := lvA_at lv 0 _ _ hi
  rw [Nat.zero_add] at hq
  obtain ⟨k0, hk0⟩ := List.getElem?_of_mem hq
  exact lv_iinc C.1 C.2.1 hd hl hk0 (by rw [hv]) hn rfl (fun ls2 hl2 => k p e s m args below meth c H locs ls2 A C hP hD hS (lv_more hl2 (lv_keep1 hp)))
theorem N_goto {tgt : Nat} (hd : dj cc pc .goto n tgt) (k : NT l G ca own cc nL ini R Qc mF sF tgt lv st ws cells slots) : NT l G ca own cc nL ini R Qc mF sF pc lv st ws cells slots := fun p e s m args below meth c H locs ls A C hP hD hS hl => by
  obtain ⟨off, hd, rfl, ht⟩ := hd
  exact lv_goto C.1 C.2.1 hd ht (k p e s m args below meth c H locs ls A C hP hD hS hl)
theorem N_icmp_ge {x y : Int32} {tgt : Nat} (hd : dj cc pc (.if_icmp .ge) n tgt) (kt : y ≤ x → NT l G ca own cc nL ini R Qc mF sF tgt lv st ws cells slots) (kf : ¬ y ≤ x → NT l G ca own cc nL ini R Qc mF sF n lv st ws cells slots) : NT l G ca own cc nL ini R Qc mF sF pc lv (.int y :: .int x :: st) ws cells slots := fun p e s m args below meth c H locs ls A C hP hD hS hl => by
  obtain ⟨off, hd, rfl, ht⟩ := hd
  exact lv_icmp_ge C.1 C.2.1 hd ht (fun h => kt h p e s m args below meth c H locs ls A C hP hD hS hl) (fun h => kf h p e s m args below meth c H locs ls A C hP hD hS hl)
theorem N_obj {idx : Nat} {x : Nat} (hd : di cc pc (.invokespecial idx) 3 n) (hl0 : Cond.methodLink own idx objectInit ∈ gd) (hi : Cond.instanceMethod objectInit ∈ gd) (hc : Cond.code objectInit ⟨#[0xb1]⟩ 1 none ∈ gd) (hf : 1 ≤ R.frames) (hlo : 12 ≤ R.locals) (k : NT l G ca own cc nL ini R Qc mF sF n lv [] ws cells slots) : NT l G ca own cc nL ini R Qc mF sF pc lv [.ref x] ws cells slots := fun p e s m args below meth c H locs ls A C hP hD hS hl => by
  obtain ⟨hd, rfl⟩ := hd
  have hts := C.2.2.2.2.2.2.1
  refine W.objInit C.1 C.2.1 C.2.2.2.2.1 (hts _ hl0) (hts _ hi) (hts _ hc) rfl (C.2.2.2.1 ▸ hl.1) rfl hd hf (by show 2 * 0 + 0 + 12 ≤ _; omega) ?_
  exact k p e s m args below meth c H locs ls A C hP hD hS hl
theorem N_get {idx ci j q a : Nat} {fs : List Value} {v : Value} (hd : di cc pc (.getfield idx) 3 n) (hf : FW own idx ci j) (hq : ws[q]? = some (a, .inr (ci, fs))) (hv : fs[j]? = some v) (k : NT l G ca own cc nL ini R Qc mF sF n lv (v :: st) ws cells slots) : NT l G ca own cc nL ini R Qc mF sF pc lv (.ref a :: st) ws cells slots := fun p e s m args below meth c H locs ls A C hP hD hS hl => by
  obtain ⟨hd, rfl⟩ := hd
  obtain ⟨CC, T, N, h1, h2, h3, h4⟩ := hf
  exact va_get (D := G) (cl := cls) C.1 C.2.1 C.2.2.2.2.2.2.1 h4 C.2.2.2.2.1 C.2.2.2.2.2.2.2.1.1 hP q hq h1 j h2 (C.2.2.2.2.2.2.1 _ h3) (fun _ h => h) hv hd (k p e s m args below meth c H locs ls A C hP hD hS hl)
theorem N_put {idx ci j q a : Nat} {fs : List Value} {x : Int32} {ws' : va_W} (hd : di cc pc (.putfield idx) 3 n) (hf : PW own idx ci j) (hq : ws[q]? = some (a, .inr (ci, fs))) (hj : j < fs.length) (hw : ws.set q (a, .inr (ci, fs.set j (.int x))) = ws') (k : NT l G ca own cc nL ini R Qc mF sF n lv st ws' cells slots) : NT l G ca own cc nL ini R Qc mF sF pc lv (.int x :: .ref a :: st) ws cells slots := fun p e s m args below meth c H locs ls A C hP hD hS hl => by
  obtain ⟨hd, rfl⟩ := hd
  subst hw
  obtain ⟨CC, T, N, ty0, h1, h2, h3, h4, h5, h6, h7, h8⟩ := hf
  exact va_put (D := G) (cl := cls) (ty := .int) C.1 C.2.1 C.2.2.2.2.2.2.1 h4 ty0 h5 h6 C.2.2.2.2.1 C.2.2.2.2.2.2.2.1.1 hP hD hS q hq h1 j h2 (C.2.2.2.2.2.2.1 _ h3) (fun _ h => h) h7 h8 rfl rfl hj hd (fun H1 locs1 hP1 hD1 hS1 => k p e s m args below meth c H1 locs1 ls A C hP1 hD1 hS1 hl)
/-- a final field that holds a reference -/
def RW (own : String) (idx ci j : Nat) : Prop := ∃ (C : String) (T : u_T) (N : Nat) (ty0 : Nat → FieldType) (ty : FieldType), cls[ci]? = some (C, T, N) ∧ j < N ∧ Cond.fieldLink own idx (T j).1 (T j).2.1 (T j).2.2.1 ∈ gd ∧ (∀ w ∈ u_ws C T N, w ∈ gd) ∧ (∀ k, k < N → parseFieldDescriptor (T k).2.2.1 = some (ty0 k)) ∧ (∀ a, a < N → ∀ b, b < N → a ≠ b → (T a).2.1 ≠ (T b).2.1) ∧ (T j).2.2.2 = true ∧ (T j).1 = own ∧ parseFieldDescriptor (T j).2.2.1 = some ty ∧ ∀ x : Nat, narrow ty (.ref x) = .ref x ∧ fits ty (.ref x) = true
theorem N_putF {idx ci j q a x : Nat} {fs : List Value} {ws' : va_W} (hi : ini = true) (hd : di cc pc (.putfield idx) 3 n) (hf : RW own idx ci j) (hq : ws[q]? = some (a, .inr (ci, fs))) (hj : j < fs.length) (hw : ws.set q (a, .inr (ci, fs.set j (.ref x))) = ws') (k : NT l G ca own cc nL ini R Qc mF sF n lv st ws' cells slots) : NT l G ca own cc nL ini R Qc mF sF pc lv (.ref x :: .ref a :: st) ws cells slots := fun p e s m args below meth c H locs ls A C hP hD hS hl => by
  obtain ⟨hd, rfl⟩ := hd
  subst hw
  obtain ⟨CC, T, N, ty0, ty, h1, h2, h3, h4, h5, h6, h7, h8, h9, h10⟩ := hf
  exact va_putF (D := G) (cl := cls) (ty := ty) C.1 C.2.1 C.2.2.2.2.2.2.1 h4 ty0 h5 h6 C.2.2.2.2.1 C.2.2.2.2.2.2.2.1.1 hP hD hS q hq h1 j h2 (C.2.2.2.2.2.2.1 _ h3) (fun _ h => h) h7 (C.2.2.2.2.2.2.2.2.2 hi) h8 h9 (h10 x).1 (h10 x).2 hj hd (fun H1 locs1 hP1 hD1 hS1 => k p e s m args below meth c H1 locs1 ls A C hP1 hD1 hS1 hl)
theorem N_iast {q a N : Nat} {f : Nat → Int32} {i x : Int32} {ws' : va_W} (hd : di cc pc .iastore 1 n) (hq : ws[q]? = some (a, .inl (ca 0, N, .inl f))) (hi : vp_in i N) (hw : ws.set q (a, .inl (ca 0, N, .inl (upd f i.toNatClampNeg x))) = ws') (k : NT l G ca own cc nL ini R Qc mF sF n lv st ws' cells slots) : NT l G ca own cc nL ini R Qc mF sF pc lv (.int x :: .int i :: .ref a :: st) ws cells slots := fun p e s m args below meth c H locs ls A C hP hD hS hl => by
  obtain ⟨hd, rfl⟩ := hd
  subst hw
  exact va_iast C.1 C.2.1 C.2.2.2.2.2.2.2.1.1 hP hD hS q 0 hq rfl hi hd (fun H1 locs1 hP1 hD1 hS1 => k p e s m args below meth c H1 locs1 ls A C hP1 hD1 hS1 hl)
theorem N_alen {q a N : Nat} {f : Nat → Int32} {v : Int32} (hd : di cc pc .arraylength 1 n) (hq : ws[q]? = some (a, .inl (ca 0, N, .inl f))) (hv : Int32.ofNat N = v) (k : NT l G ca own cc nL ini R Qc mF sF n lv (.int v :: st) ws cells slots) : NT l G ca own cc nL ini R Qc mF sF pc lv (.ref a :: st) ws cells slots := fun p e s m args below meth c H locs ls A C hP hD hS hl => by
  obtain ⟨hd, rfl⟩ := hd
  exact va_alen C.1 C.2.1 C.2.2.2.2.2.2.2.1.1 hP q 0 hq (ty := .int) rfl hv hd (k p e s m args below meth c H locs ls A C hP hD hS hl)
theorem N_newaI {z : Int32} {N : Nat} (hd : di cc pc (.newarray .int) 2 n) (hw : Cond.arrayClass .int ∈ gd) (hz : ¬ z < 0) (hN : z.toNatClampNeg = N) (hb : N * componentBytes .int ≤ 536870912) (hc : cells + 1 ≤ R.cells) (hs : slots + N ≤ R.slots) (k : ∀ q : Nat, NT l G ca own cc nL ini R Qc mF sF n lv (.ref q :: st) (ws ++ [(q, .inl (ca 0, N, .inl (fun _ => 0)))]) (cells + 1) (slots + N)) : NT l G ca own cc nL ini R Qc mF sF pc lv (.int z :: st) ws cells slots := fun p e s m args below meth c H locs ls A C hP hD hS hl => by
  obtain ⟨hd, rfl⟩ := hd
  have hK := C.2.2.2.2.2.2.2.1.1
  refine va_newa (atype := .int) (ty := .int) (a0 := (N, .inl (fun _ => 0))) C.1 C.2.1 (C.2.2.2.2.2.2.1 _ hw) rfl hK hP hD hS C.2.2.2.2.2.2.2.2.1 (fun _ => rfl) hz hN hb hc hs hd (fun q cA H1 hK1 hP1 hD1 hS1 => ?_)
  have ecA : cA = ca 0 := by
    have h1 := (hK1.2 4 (cA, .int) rfl).2
    have h2 := (hK.2 0 (ca 0, .int) rfl).2
    exact Option.some.inj (h1.symm.trans h2)
  rw [ecA] at hP1 hD1
  exact k q p e s m args below meth c H1 locs ls A C hP1 hD1 hS1 hl
theorem N_newaZ {z : Int32} {N : Nat} (hd : di cc pc (.newarray .boolean) 2 n) (hw : Cond.arrayClass .boolean ∈ gd) (hz : ¬ z < 0) (hN : z.toNatClampNeg = N) (hb : N * componentBytes .boolean ≤ 536870912) (hc : cells + 1 ≤ R.cells) (hs : slots + N ≤ R.slots) (k : ∀ q : Nat, NT l G ca own cc nL ini R Qc mF sF n lv (.ref q :: st) (ws ++ [(q, .inl (ca 1, N, .inl (fun _ => 0)))]) (cells + 1) (slots + N)) : NT l G ca own cc nL ini R Qc mF sF pc lv (.int z :: st) ws cells slots := fun p e s m args below meth c H locs ls A C hP hD hS hl => by
  obtain ⟨hd, rfl⟩ := hd
  have hK := C.2.2.2.2.2.2.2.1.1
  refine va_newa (atype := .boolean) (ty := .boolean) (a0 := (N, .inl (fun _ => 0))) C.1 C.2.1 (C.2.2.2.2.2.2.1 _ hw) rfl hK hP hD hS C.2.2.2.2.2.2.2.2.1 (fun _ => rfl) hz hN hb hc hs hd (fun q cA H1 hK1 hP1 hD1 hS1 => ?_)
  have ecA : cA = ca 1 := by
    have h1 := (hK1.2 4 (cA, .boolean) rfl).2
    have h2 := (hK.2 1 (ca 1, .boolean) rfl).2
    exact Option.some.inj (h1.symm.trans h2)
  rw [ecA] at hP1 hD1
  exact k q p e s m args below meth c H1 locs ls A C hP1 hD1 hS1 hl
theorem N_newaJ {z : Int32} {N : Nat} (hd : di cc pc (.newarray .long) 2 n) (hw : Cond.arrayClass .long ∈ gd) (hz : ¬ z < 0) (hN : z.toNatClampNeg = N) (hb : N * componentBytes .long ≤ 536870912) (hc : cells + 1 ≤ R.cells) (hs : slots + N ≤ R.slots) (k : ∀ q : Nat, NT l G ca own cc nL ini R Qc mF sF n lv (.ref q :: st) (ws ++ [(q, .inl (ca 2, N, .inr (.inl (fun _ => 0))))]) (cells + 1) (slots + N)) : NT l G ca own cc nL ini R Qc mF sF pc lv (.int z :: st) ws cells slots := fun p e s m args below meth c H locs ls A C hP hD hS hl => by
  obtain ⟨hd, rfl⟩ := hd
  have hK := C.2.2.2.2.2.2.2.1.1
  refine va_newa (atype := .long) (ty := .long) (a0 := (N, .inr (.inl (fun _ => 0)))) C.1 C.2.1 (C.2.2.2.2.2.2.1 _ hw) rfl hK hP hD hS C.2.2.2.2.2.2.2.2.1 (fun _ => rfl) hz hN hb hc hs hd (fun q cA H1 hK1 hP1 hD1 hS1 => ?_)
  have ecA : cA = ca 2 := by
    have h1 := (hK1.2 4 (cA, .long) rfl).2
    have h2 := (hK.2 2 (ca 2, .long) rfl).2
    exact Option.some.inj (h1.symm.trans h2)
  rw [ecA] at hP1 hD1
  exact k q p e s m args below meth c H1 locs ls A C hP1 hD1 hS1 hl
theorem N_new {idx ci : Nat} {Cn : String} {T : u_T} {N : Nat} {ty : Nat → FieldType} {fs : List Value} (hd : di cc pc (.new idx) 3 n) (hlay : ∀ w ∈ u_ws Cn T N, w ∈ gd) (hty : ∀ k, k < N → parseFieldDescriptor (T k).2.2.1 = some (ty k)) (h1 : Cond.classLink own idx Cn ∈ gd) (h2 : Cond.instantiable Cn N ∈ gd) (h3 : Cond.initialized Cn ∈ gd) (hc : cls[ci]? = some (Cn, T, N)) (hfs : ∀ j, j < N → defaultValue (ty j) = vp_V fs j) (hcl : cells + 1 ≤ R.cells) (hsl : slots + N ≤ R.slots) (k : ∀ q : Nat, NT l G ca own cc nL ini R Qc mF sF n lv (.ref q :: st) (ws ++ [(q, .inr (ci, fs))]) (cells + 1) (slots + N)) : NT l G ca own cc nL ini R Qc mF sF pc lv st ws cells slots := fun p e s m args below meth c H locs ls A C hP hD hS hl => by
  obtain ⟨hd, rfl⟩ := hd
  have hts := C.2.2.2.2.2.2.1
  exact va_new (D := G) (cl := cls) C.1 C.2.1 hts hlay ty hty C.2.2.2.2.1 (hts _ h1) (hts _ h2) (hts _ h3) C.2.2.2.2.2.2.2.1.1 hP hD hS C.2.2.2.2.2.2.2.2.1 hc hfs hcl hsl hd (fun q H1 hP1 hD1 hS1 => k q p e s m args below meth c H1 locs ls A C hP1 hD1 hS1 hl)
theorem N_vret {u : Nat → Nat} {out : (Nat → Nat) → va_W} (hd : di cc pc .return_ 1 n) (h : out u = ws) : NT l G ca own cc nL ini R (fun A => QN G out A) cells slots pc lv [] ws cells slots := fun p e s m args below meth c H locs ls A C hP hD hS hl => by
  obtain ⟨hd, rfl⟩ := hd
  subst h
  exact W.vret C.1 C.2.1 C.2.2.1 (fun t ht hW => ⟨⟨u, rfl, trivial, by rw [ht]; exact hP, hD⟩, hS.F ht⟩) hS.2.2 hd (hlocks := C.2.2.2.2.2.1)
variable {y : MethodName} {cy : ByteArray} {ny fr lo mc ms : Nat} {as rest : List Value} {out : (Nat → Nat) → va_W} {wc wr : va_W}
theorem N_blind {as : List Value} {w0 : va_W} {sz : Nat} : FrameBlind (va_Pc as (fun U => U.heap.size = sz ∧ va_P G cls w0 U.heap ∧ va_D (fun _ => True) w0 ∧ KC G ca U)) := fun a U gf mk q => by
  obtain ⟨q0, q1, q2, q3, q4⟩ := q
  exact ⟨q0, q1, q2, q3, KC.same (u := U) rfl q4⟩
theorem N_run {p : Program} {e : Env} {s : State} {m : MethodId} {args : Array Value} {below : List Frame} {meth : Method} {c : Code} {H : Heap} {locs : List Loc} {ls : Array Slot} {A : Nat → Prop} {st0 : List Value} {aa : Array Value} {pc' : Nat} {Q : State → Prop}
    (hr : va_Run p l e R s m args below meth c H locs cells slots mc ms (F0 m pc' ls st0) rest (QN G out (va_A wc H.size) aa) (va_A wc H.size)) (hP : va_P G cls ws H) (hD : va_D A ws) (hS : va_S A s.heap H locs) (hA : ∀ q : Nat, s.heap.size ≤ q → A q)
    (isC isR : List Nat) (hC : isC.map (fun i => ws[i]?) = wc.map some) (hR : isR.map (fun i => ws[i]?) = wr.map some) (hn : va_nd isR = true) (hdis : ∀ i ∈ isR, i ∉ isC)
    (kk : ∀ (u : Nat → Nat) (H1 : Heap) (locs1 : List Loc), va_P G cls (wr ++ out u) H1 → va_D A (wr ++ out u) → va_S A s.heap H1 locs1 → W p l e R s m args below meth c H1 locs1 (cells + mc) (slots + ms) Q (F0 m (pc' + 3) ls rest)) : W p l e R s m args below meth c H locs cells slots Q (F0 m pc' ls st0) := by
  have hF := va_free (wc := wc) hD hS hA isC hC
  refine va_callv hr hS (fun q _ h => hF q h) hF (fun u t H1 locs1 ht hvm hw hB hz hk hS1 => ?_)
  obtain ⟨hP1, hD1⟩ := hB
  rw [ht] at hP1
  obtain ⟨hP2, hD2⟩ := va_join hP hD isC isR hC hR hn hdis hk hF hP1 hD1
  exact kk u H1 locs1 hP2 hD2 hS1
theorem N_pre {as : List Value} {s : State} {H : Heap} (hK : KC G ca s) (hP : va_P G cls wc H) {A : Nat → Prop} (hD : va_D A wc) : ∀ U : State, U.heap = H → s.WarmedH U.vm → va_Pc as (fun U => U.heap.size = H.size ∧ va_P G cls wc U.heap ∧ va_D (fun _ => True) wc ∧ KC G ca U) as.toArray U := fun U hU hW =>
  ⟨rfl, by rw [hU], by rw [hU]; exact hP, hD.weaken (fun _ _ _ _ => trivial), hK.warm hW⟩
theorem N_callI {idx b : Nat} (isC isR : List Nat) (hd : di cc pc (.invokespecial idx) 3 n) (hC : CI l G ca y cy ny fr lo mc ms (.ref b :: as) wc out) (hl0 : Cond.methodLink own idx y ∈ gd) (hi : Cond.instanceMethod y ∈ gd) (hn : y.name = "<init>") (hb0 : MB y cy ny none as.length)
    (hcm : isC.map (fun i => ws[i]?) = wc.map some) (hrm : isR.map (fun i => ws[i]?) = wr.map some) (hnC : va_nd isC = true) (hnd : va_nd isR = true) (hdis : ∀ i ∈ isR, i ∉ isC)
    (hR : fr + 1 ≤ R.frames ∧ 8 + (ny + 11) + lo ≤ R.locals) (hcs : cells + mc ≤ R.cells ∧ slots + ms ≤ R.slots) (hst : (rest.map fun v => v.category).sum ≤ 8)
    (k : ∀ u : Nat → Nat, NT l G ca own cc nL ini R Qc mF sF n lv rest (wr ++ out u) (cells + mc) (slots + ms)) : NT l G ca own cc nL ini R Qc mF sF pc lv (as.reverse ++ .ref b :: rest) ws cells slots := fun p e s m args below meth c H locs ls A C hP hD hS hl => by
  obtain ⟨hd, rfl⟩ := hd
  have hts := C.2.2.2.2.2.2.1
  have hG : GoodIn gd (Cond.code y cy ny none :: gd) := by
    intro w hw
    rcases List.mem_cons.mp hw with rfl | hw
    · exact gd_good hb0.2.1
    · exact gd_good hw
  have hPc := hP.sub (ws' := wc) isC (fm_of hcm)
  refine N_run (va_runI (As := as) (rest := rest) (Ts := gd) ⟨C.1, C.2.1, C.2.2.2.1, C.2.2.2.2.1, hts⟩ (hC H.size) (cwI as.length hts hG rfl rfl rfl (hts _ hb0.1) (hts _ hl0) (hts _ hi) hn hb0.2.2 hR) ⟨N_blind, N_pre C.2.2.2.2.2.2.2.1 hPc (hD.sub isC hnC hcm)⟩ rfl rfl hl.1 rfl (lv_room hst) hd hcs) hP hD hS C.2.2.2.2.2.2.2.2.1 isC isR hcm hrm hnd hdis (fun u H1 locs1 h1 h2 h3 => k u p e s m args below meth c H1 locs1 ls A C h1 h2 h3 hl)
theorem N_callIN {idx b : Nat} {host : String} (isC isR : List Nat) (hd : di cc pc (.invokespecial idx) 3 n) (hC : CI l G ca y cy ny fr lo mc ms (.ref b :: as) wc out) (hl0 : Cond.methodLinkNest own idx y host ∈ nestI) (hi : Cond.instanceMethod y ∈ gd) (hn : y.name = "<init>") (hb0 : MB y cy ny none as.length)
    (hcm : isC.map (fun i => ws[i]?) = wc.map some) (hrm : isR.map (fun i => ws[i]?) = wr.map some) (hnC : va_nd isC = true) (hnd : va_nd isR = true) (hdis : ∀ i ∈ isR, i ∉ isC)
    (hR : fr + 1 ≤ R.frames ∧ 8 + (ny + 11) + lo ≤ R.locals) (hcs : cells + mc ≤ R.cells ∧ slots + ms ≤ R.slots) (hst : (rest.map fun v => v.category).sum ≤ 8)
    (k : ∀ u : Nat → Nat, NT l G ca own cc nL ini R Qc mF sF n lv rest (wr ++ out u) (cells + mc) (slots + ms)) : NT l G ca own cc nL ini R Qc mF sF pc lv (as.reverse ++ .ref b :: rest) ws cells slots := fun p e s m args below meth c H locs ls A C hP hD hS hl => by
  obtain ⟨hd, rfl⟩ := hd
  have hts := C.2.2.2.2.2.2.1
  have hG : GoodIn gd (Cond.code y cy ny none :: gd) := by
    intro w hw
    rcases List.mem_cons.mp hw with rfl | hw
    · exact gd_good hb0.2.1
    · exact gd_good hw
  have hPc := hP.sub (ws' := wc) isC (fm_of hcm)
  refine N_run (va_runIN (As := as) (rest := rest) (Ts := gd) ⟨C.1, C.2.1, C.2.2.2.1, C.2.2.2.2.1, hts⟩ (hC H.size) ⟨va_cnB as.length hts hG rfl rfl rfl (C.2.2.2.2.2.2.2.1.2.1 _ hl0) (hts _ hb0.1) hb0.2.2 hR, hn, hts _ hi⟩ ⟨N_blind, N_pre C.2.2.2.2.2.2.2.1 hPc (hD.sub isC hnC hcm)⟩ rfl rfl hl.1 rfl (lv_room hst) hd hcs) hP hD hS C.2.2.2.2.2.2.2.2.1 isC isR hcm hrm hnd hdis (fun u H1 locs1 h1 h2 h3 => k u p e s m args below meth c H1 locs1 ls A C h1 h2 h3 hl)
theorem N_callS {idx : Nat} (isC isR : List Nat) (hd : di cc pc (.invokestatic idx) 3 n) (hC : CI l G ca y cy ny fr lo mc ms as wc out) (hl0 : Cond.methodLink own idx y ∈ gd) (hi : Cond.static y ∈ gd) (hb0 : MB y cy ny none as.length)
    (hcm : isC.map (fun i => ws[i]?) = wc.map some) (hrm : isR.map (fun i => ws[i]?) = wr.map some) (hnC : va_nd isC = true) (hnd : va_nd isR = true) (hdis : ∀ i ∈ isR, i ∉ isC)
    (hR : fr + 1 ≤ R.frames ∧ 8 + (ny + 11) + lo ≤ R.locals) (hcs : cells + mc ≤ R.cells ∧ slots + ms ≤ R.slots) (hst : (rest.map fun v => v.category).sum ≤ 8)
    (k : ∀ u : Nat → Nat, NT l G ca own cc nL ini R Qc mF sF n lv rest (wr ++ out u) (cells + mc) (slots + ms)) : NT l G ca own cc nL ini R Qc mF sF pc lv (as.reverse ++ rest) ws cells slots := fun p e s m args below meth c H locs ls A C hP hD hS hl => by
  obtain ⟨hd, rfl⟩ := hd
  have hts := C.2.2.2.2.2.2.1
  have hG : GoodIn gd (va_wsS own idx y (Cond.code y cy ny none :: gd)) := by
    intro w hw
    unfold va_wsS at hw
    simp only [List.mem_append, List.mem_cons, List.not_mem_nil, or_false] at hw
    rcases hw with (rfl | rfl | rfl) | (rfl | hw)
    · exact gd_good hl0
    · exact gd_good hi
    · exact gd_good hb0.1
    · exact gd_good hb0.2.1
    · exact gd_good hw
  have hPc := hP.sub (ws' := wc) isC (fm_of hcm)
  refine N_run (va_runS (As := as) (rest := rest) (Ts := gd) ⟨C.1, C.2.1, C.2.2.2.1, C.2.2.2.2.1, hts⟩ (hC H.size) (va_cwS as.length hts hG rfl rfl rfl hb0.2.2 hR) ⟨N_blind, N_pre C.2.2.2.2.2.2.2.1 hPc (hD.sub isC hnC hcm)⟩ rfl rfl hl.1 rfl (lv_room hst) hd hcs) hP hD hS C.2.2.2.2.2.2.2.2.1 isC isR hcm hrm hnd hdis (fun u H1 locs1 h1 h2 h3 => k u p e s m args below meth c H1 locs1 ls A C h1 h2 h3 hl)
theorem fresh_D {A : Nat → Prop} {w0 w1 : va_W} {h : Nat} (hD : va_D A w0) (h0 : ∀ (k : Nat) (q : Nat × va_E), w0[k]? = some q → q.1 < h) (h1 : ∀ (k : Nat) (q : Nat × va_E), w1[k]? = some q → q.1 = h + k) (hA : ∀ q : Nat, h ≤ q → A q) : va_D A (w0 ++ w1) := by
  refine hD.app ⟨fun i j x y hi hj e => ?_, fun k q hk => ?_⟩ (fun i j x y hx hy e => ?_)
  · have := h1 i x hi
    have := h1 j y hj
    omega
  · exact hA _ (by have := h1 k q hk; omega)
  · have := h0 i x hx
    have := h1 j y hy
    omega
theorem outer_arr (c : ClassId) (N h0 : Nat) : ∀ i : Nat, Jvm.Free.Multi.outerC c N h0 i = arrV c N (fun j => va_rf (if j < i then some (h0 + 1 + j) else none))
  | 0 => by
    show ({ cls := c, slots := Array.replicate N .null, vm := .none } : Cell) = _
    rw [arrV_new]
    refine congrArg (arrV c N) (funext fun j => ?_)
    simp [va_rf]
  | i + 1 => by
    show (Jvm.Free.Multi.outerC c N h0 i).setSlot i (.ref (h0 + 1 + i)) = _
    rw [outer_arr c N h0 i, arrV_store]
    refine congrArg (arrV c N) (funext fun j => ?_)
    by_cases e : j = i
    · subst e
      simp [updV, va_rf]
    · by_cases h : j < i
      · simp [updV, e, h, Nat.lt_succ_of_lt h]
      · simp [updV, e, h, show ¬ j < i + 1 by omega]
/-- the cells of new int[15][183] at q -/
def gridW (ca : Nat → ClassId) (q : Nat) : va_W := (q, .inl (ca 3, 15, .inr (.inr (.inr (.inr (fun i => if i < 15 then some (q + 1 + i) else none)))))) :: (List.range 15).map (fun i => (q + 1 + i, .inl (ca 0, 183, .inl (fun _ => 0))))
theorem gridW_at {ca : Nat → ClassId} {q : Nat} : ∀ (k : Nat) (x : Nat × va_E), (gridW ca q)[k]? = some x → x.1 = q + k := by
  intro k x hx
  cases k with
  | zero => cases hx; rfl
  | succ k =>
    unfold gridW at hx
    rw [List.getElem?_cons_succ, List.getElem?_map] at hx
    by_cases hk : k < 15
    · rw [List.getElem?_range hk] at hx
      cases hx
      show q + 1 + k = q + (k + 1)
      omega
    · rw [List.getElem?_eq_none (by rw [List.length_range]; omega)] at hx
      cases hx
theorem N_mna {idx : Nat} (hd : di cc pc (.multianewarray idx 2) 4 n) (hl0 : Cond.classLink own idx ("[" ++ (FieldType.array FieldType.int).toString) ∈ gd) (hw : Cond.arrayClass .int ∈ gd) (hc : cells + 16 ≤ R.cells) (hs : slots + 2760 ≤ R.slots) (k : ∀ q : Nat, NT l G ca own cc nL ini R Qc mF sF n lv (.ref q :: st) (ws ++ gridW ca q) (cells + 16) (slots + 2760)) : NT l G ca own cc nL ini R Qc mF sF pc lv (.int 183 :: .int 15 :: st) ws cells slots := fun p e s m args below meth c H locs ls A C hP hD hS hl => by
  obtain ⟨hd, rfl⟩ := hd
  have hts := C.2.2.2.2.2.2.1
  have hK := C.2.2.2.2.2.2.2.1
  intro T hT X
  obtain ⟨vm₁, cA, comp, hW1, fA, fC, X', step⟩ := X.multianewarray2 C.1 C.2.2.2.2.1 (hts _ hl0) hK.2.2 (hts _ hw) (g := F0 m pc ls (.int 183 :: .int 15 :: st)) rfl (by rw [C.2.1]; exact hd) rfl (by decide) (by decide) (by decide) (by decide) (by decide) rfl rfl (by show cells + (1 + 15) ≤ _; omega) (by show slots + (15 + 15 * 183) ≤ _; omega)
  have eA : cA = ca 3 := Option.some.inj (fA.symm.trans (hK.1.2 3 (ca 3, .array .int) rfl).2)
  have eC : comp = ca 0 := Option.some.inj (fC.symm.trans (hK.1.2 0 (ca 0, .int) rfl).2)
  subst eA
  subst eC
  have e15 : (15 : Int32).toNatClampNeg = 15 := by decide
  have e183 : (183 : Int32).toNatClampNeg = 183 := by decide
  rw [e15, e183] at X' step
  generalize hF : Jvm.Free.Multi.fill (T.setVm vm₁) (ca 3) (ca 0) 15 183 (defaultValue .int) 15 = F at X' step
  have hTh : (T.setVm vm₁).heap = H := hT
  obtain ⟨f1, f2, -, -⟩ := Jvm.Free.Multi.fill_facts (T.setVm vm₁) (ca 3) (ca 0) 15 183 (defaultValue .int) 15
  rw [hF, hTh] at f1 f2
  have hold : ∀ x : Nat, x < H.size → F.heap[x]? = H[x]? := fun x hx => by
    have := Jvm.Free.Multi.fill_old (T.setVm vm₁) (ca 3) (ca 0) 15 183 (defaultValue .int) (a := x) (by rw [hTh]; exact hx) 15
    rw [hF, hTh] at this
    exact this
  have hrow : ∀ j : Nat, j < 15 → F.heap[H.size + 1 + j]? = some (vp_cell (ca 0) (183, .inl (fun _ => 0))) := fun j hj => by
    have := Jvm.Free.Multi.fill_inner (T.setVm vm₁) (ca 3) (ca 0) 15 183 (defaultValue .int) 15 j hj
    rw [hF, hTh] at this
    rw [this, vp_cell_i, ← arrV_new]
    rfl
  rw [outer_arr] at f2
  have hP0 : va_P G cls ws F.heap := hP.kept (fun k9 x hx => hold x.1 ((hP k9 x hx).lt))
  have hP1 : va_P G cls (ws ++ gridW ca H.size) F.heap := hP0.app (fun k9 x hx => by
    cases k9 with
    | zero =>
      cases hx
      show F.heap[H.size]? = some (vp_cell _ _)
      rw [f2, vp_cell_q]
    | succ k9 =>
      unfold gridW at hx
      rw [List.getElem?_cons_succ, List.getElem?_map] at hx
      by_cases hk : k9 < 15
      · rw [List.getElem?_range hk] at hx
        cases hx
        exact hrow k9 hk
      · rw [List.getElem?_eq_none (by rw [List.length_range]; omega)] at hx
        cases hx)
  have hAH : ∀ q : Nat, H.size ≤ q → A q := fun q h => C.2.2.2.2.2.2.2.2.1 q (Nat.le_trans hS.1 h)
  have hD1 : va_D A (ws ++ gridW ca H.size) := fresh_D hD (fun k9 x hx => (hP k9 x hx).lt) gridW_at hAH
  have hS1 : va_S A s.heap F.heap (locs ++ (List.range 15).map fun j => ⟨T.heap.size, j⟩) := ⟨by rw [f1]; have := hS.1; omega, fun x h1 h2 => (hold x (Nat.lt_of_lt_of_le h1 hS.1)).trans (hS.2.1 x h1 h2), fun q hq => by
    rcases List.mem_append.mp hq with h | h
    · exact hS.2.2 q h
    · obtain ⟨z, -, hz⟩ := List.mem_map.mp h
      rw [← hz]
      exact hAH _ (by rw [hT]; exact Nat.le_refl _)⟩
  obtain ⟨t, a1, b1⟩ := k H.size p e s m args below meth c F.heap _ ls A C hP1 hD1 hS1 hl F rfl X'
  refine ⟨t, step t ?_, b1⟩
  have eT : T.heap.size = H.size := by rw [hT]
  rw [eT]
  exact a1
theorem N_le {lv' : List (Option Value)} (h : lvLe lv' lv) (k : NT l G ca own cc nL ini R Qc mF sF pc lv' st ws cells slots) : NT l G ca own cc nL ini R Qc mF sF pc lv st ws cells slots := fun p e s m args below meth c H locs ls A C hP hD hS hl => by
  exact k p e s m args below meth c H locs ls A C hP hD hS (lv_more hl (lvA_le _ _ 0 h))
end NROWS
