/-! THE JUDGEMENTS: a frame of a method over a memory (AT), a method's contract (CT) -/
def gd : List Cond := lw_tbl.filter goodWord
theorem gd_good {w : Cond} (h : w ∈ gd) : w ∈ gd ∧ ((w.onTables && w.keeps) = true ∨ ∃ ty, w = .arrayClass ty) := ⟨h, good_of_word (List.mem_filter.mp h).2⟩
theorem gd_t {w : Cond} (i : Nat) (h : tables_1[i]? = some w ∧ goodWord w = true) : w ∈ gd := List.mem_filter.mpr ⟨List.mem_append_right _ (List.mem_of_getElem? h.1), h.2⟩
theorem gd_1 {w : Cond} (i : Nat) (h : tables_1_1[i]? = some w ∧ goodWord w = true) : w ∈ gd := List.mem_filter.mpr ⟨List.mem_append_right _ (List.mem_append_left _ (List.mem_of_getElem? h.1)), h.2⟩
theorem gd_2 {w : Cond} (i : Nat) (h : tables_1_2[i]? = some w ∧ goodWord w = true) : w ∈ gd := List.mem_filter.mpr ⟨List.mem_append_right _ (List.mem_append_right _ (List.mem_append_left _ (List.mem_of_getElem? h.1))), h.2⟩
theorem gd_3 {w : Cond} (i : Nat) (h : tables_1_3[i]? = some w ∧ goodWord w = true) : w ∈ gd := List.mem_filter.mpr ⟨List.mem_append_right _ (List.mem_append_right _ (List.mem_append_right _ (List.mem_append_left _ (List.mem_of_getElem? h.1)))), h.2⟩
theorem gd_4 {w : Cond} (i : Nat) (h : tables_1_4[i]? = some w ∧ goodWord w = true) : w ∈ gd := List.mem_filter.mpr ⟨List.mem_append_right _ (List.mem_append_right _ (List.mem_append_right _ (List.mem_append_right _ (List.mem_append_left _ (List.mem_of_getElem? h.1))))), h.2⟩
theorem gd_5 {w : Cond} (i : Nat) (h : tables_1_5[i]? = some w ∧ goodWord w = true) : w ∈ gd := List.mem_filter.mpr ⟨List.mem_append_right _ (List.mem_append_right _ (List.mem_append_right _ (List.mem_append_right _ (List.mem_append_right _ (List.mem_append_left _ (List.mem_of_getElem? h.1)))))), h.2⟩
theorem gd_6 {w : Cond} (i : Nat) (h : tables_1_6[i]? = some w ∧ goodWord w = true) : w ∈ gd := List.mem_filter.mpr ⟨List.mem_append_right _ (List.mem_append_right _ (List.mem_append_right _ (List.mem_append_right _ (List.mem_append_right _ (List.mem_append_right _ (List.mem_of_getElem? h.1)))))), h.2⟩
theorem gd_p {w : Cond} (i : Nat) (h : (k2_sels lw_privs)[i]? = some w ∧ goodWord w = true) : w ∈ gd := List.mem_filter.mpr ⟨List.mem_append_left _ (List.mem_of_getElem? h.1), h.2⟩
def tbA (j : Nat) : Int32 := [-1, 0, 1, 0].getD j 0
def tbG (j : Nat) : Int32 := [100, 52, 100, 100, 100].getD j 0
def tbW (j : Nat) : Int32 := [115, 104, 97, 114, 101, 107, 101, 101, 112, 0, 119, 97, 105, 116, 0, 102, 114, 101, 101, 0, 115, 117, 114, 101, 0].getD j 0
def sLen : List Nat := [5, 4, 4, 4, 4]
def sByt : List (List Int32) := [[115, 104, 97, 114, 101], [107, 101, 101, 112], [119, 97, 105, 116], [102, 114, 101, 101], [115, 117, 114, 101]]
def nestW : List Cond := [.methodLinkNest RX1 22 yX10_isWithin "BenchTimes", .methodLinkNest RX2 29 yX10_isWithin "BenchTimes", .methodLinkNest RX5 80 yX10_isWithin "BenchTimes", .methodLinkNest RX9 84 yX10_isWithin "BenchTimes", .methodLinkNest RX3 52 yX10_isIn "BenchTimes"]
/-- statics, texts and links of nest mates: what no method writes -/
def ST (g : Cx) (A : Nat → Prop) (U : State) (H : Heap) : Prop :=
  (va_Z "BenchTimes$Elements" "ABOVE" "[I" (.ref (g.2.2.2.1 0)) A U H ∧ va_T .int (g.2.2.2.1 0) 4 (fun j => .int (tbA j)) A U H) ∧
  (va_Z "BenchTimes$Rules" "GREATEST" "[I" (.ref (g.2.2.2.1 1)) A U H ∧ va_T .int (g.2.2.2.1 1) 5 (fun j => .int (tbG j)) A U H) ∧
  (va_Z "BenchTimesModel" "WORDS" "[I" (.ref (g.2.2.2.1 2)) A U H ∧ va_T .int (g.2.2.2.1 2) 25 (fun j => .int (tbW j)) A U H) ∧
  va_Z "java/lang/String" "COMPACT_STRINGS" "Z" (.int 1) A U H ∧
  vk_S 5 sLen sByt g.2.2.2.2.1 g.2.2.2.2.2 A U H ∧
  (vk_R "BenchTimes$Rules" 84 "share" (g.2.2.2.2.1 0) U ∧ vk_R "BenchTimes$Rules" 86 "keep" (g.2.2.2.2.1 1) U ∧ vk_R "BenchTimes$Rules" 88 "wait" (g.2.2.2.2.1 2) U ∧ vk_R "BenchTimes$Rules" 90 "free" (g.2.2.2.2.1 3) U ∧ vk_R "BenchTimes$Rules" 92 "sure" (g.2.2.2.2.1 4) U) ∧
  (∀ w ∈ nestW, va_Nw w U) ∧ va_Zq "jdk/internal/util/Preconditions" "SIOOBE_FORMATTER" "Ljava/util/function/BiFunction;" A U H
theorem ST.go {g : Cx} {A : Nat → Prop} {s U : State} {H : Heap} (hW : s.WarmedH U.vm) (h : ST g A s s.heap) (hq : ∀ a : Nat, a < s.heap.size → ¬ A a → H[a]? = s.heap[a]?) : ST g A U H := by
  obtain ⟨⟨a1, a2⟩, ⟨b1, b2⟩, ⟨c1, c2⟩, d1, e1, ⟨f1, f2, f3, f4, f5⟩, n1, z1⟩ := h
  have hA := hW.alike
  refine ⟨⟨(a1.kept hq).moved hA, (a2.kept hq).moved hA⟩, ⟨(b1.kept hq).moved hA, (b2.kept hq).moved hA⟩, ⟨(c1.kept hq).moved hA, (c2.kept hq).moved hA⟩, (d1.kept hq).moved hA, (e1.kept hq).moved hA, ⟨f1.warm hW, f2.warm hW, f3.warm hW, f4.warm hW, f5.warm hW⟩, fun w hw => ?_, (z1.kept hq).moved hA⟩
  have hn := n1 w hw
  simp only [nestW, List.mem_cons, List.not_mem_nil, or_false] at hw
  rcases hw with rfl | rfl | rfl | rfl | rfl <;> exact va_Nw.warmM hW hn
theorem ST.same {g : Cx} {A : Nat → Prop} {u U : State} {H : Heap} (hv : U.vm = u.vm) (h : ST g A u H) : ST g A U H := by
  obtain ⟨⟨a1, a2⟩, ⟨b1, b2⟩, ⟨c1, c2⟩, d1, e1, ⟨f1, f2, f3, f4, f5⟩, n1, z1⟩ := h
  have hA : u.vm.Alike U.vm := by rw [hv]; exact Vm.Alike.refl u.vm
  refine ⟨⟨a1.moved hA, a2.moved hA⟩, ⟨b1.moved hA, b2.moved hA⟩, ⟨c1.moved hA, c2.moved hA⟩, d1.moved hA, e1.moved hA, ⟨f1.same hv, f2.same hv, f3.same hv, f4.same hv, f5.same hv⟩, fun w hw => ?_, z1.moved hA⟩
  have hn := n1 w hw
  simp only [nestW, List.mem_cons, List.not_mem_nil, or_false] at hw
  rcases hw with rfl | rfl | rfl | rfl | rfl <;> exact va_Nw.same rfl hv.symm hn
def lvA : Nat → List (Option Value) → List (Nat × Value)
  | _, [] => []
  | i, none :: t => lvA (i + 1) t
  | i, some v :: t => (i, v) :: lvA (i + 1) t
def CF (p : Program) (s : State) (m : MethodId) (args : Array Value) (meth : Method) (c : Code) (g : Cx) (own : String) (cc : ByteArray) (nL : Nat) (ret : Option FieldType) : Prop :=
  p.tables.exec = Jvm.exec ∧ c.code = cc ∧ meth.sig.returnType = ret ∧ c.maxLocals = nL ∧ s.vm.findClass own = some m.cls ∧ meth.locks = false ∧ (∀ w ∈ gd, w.before args s = true) ∧ va_K g.2.1 cls (tysG g) s ∧ DJ g ∧ ST g (inW g) s s.heap
def QC (g : Cx) (P : Option Value → Mem → Prop) : Array Value → State → Outcome → State → Prop := fun _ st o t => (∃ (r : Option Value) (M' : Mem), o = .returned r ∧ P r M' ∧ va_P g.2.1 cls (wl g M') t.heap) ∧ va_F (inW g) st t
def AT (l : Launch) (g : Cx) (own : String) (cc : ByteArray) (nL : Nat) (ret : Option FieldType) (R : Room) (P : Option Value → Mem → Prop) (pc : Nat) (lv : List (Option Value)) (st : List Value) (M : Mem) : Prop :=
  ∀ (p : Program) (e : Env) (s : State) (m : MethodId) (args : Array Value) (below : List Frame) (meth : Method) (c : Code) (H : Heap) (locs : List Loc) (ls : Array Slot),
    CF p s m args meth c g own cc nL ret → va_P g.2.1 cls (wl g M) H → va_S (inW g) s.heap H locs → lv_has ls nL (lvA 0 lv) →
    W p l e R s m args below meth c H locs 0 0 (MQ below (QC g P) args s 0 0 (inW g)) (F0 m pc ls st)
abbrev rmM (fr lo : Nat) : Room := { frames := fr, cells := 0, slots := 0, locals := lo }
def CT (l : Launch) (g : Cx) (y : MethodName) (cc : ByteArray) (nL : Nat) (ret : Option FieldType) (fr lo : Nat) (as : List Value) (M : Mem) (P : Option Value → Mem → Prop) : Prop :=
  Met l y (.code y cc nL ret :: gd) (rmM fr lo) (va_Pc as (fun U => va_P g.2.1 cls (wl g M) U.heap ∧ va_K g.2.1 cls (tysG g) U ∧ DJ g ∧ ST g (inW g) U U.heap)) (QC g P) 0 0 (inW g)
theorem CT_of {l : Launch} {g : Cx} {y : MethodName} {cc : ByteArray} {nL : Nat} {ret : Option FieldType} {fr lo : Nat} {as : List Value} {M : Mem} {P : Option Value → Mem → Prop} {lv : List (Option Value)} (hy : plainName y.cls = true) (hlv : lv_args 0 as = lvA 0 lv) (hn : (lg_sl as).length ≤ nL)
    (h : AT l g y.cls cc nL ret (rmM fr lo) P 0 lv [] M) : CT l g y cc nL ret fr lo as M P := by
  refine Met.ofW (cc := cc) (maxL := nL) (ret := ret) hy rfl ?_
  intro p e s m args below meth c s₁ B hml hv
  obtain ⟨rfl, hP, hK, hJ, hT⟩ := hv
  have hts := atoms_spec (ws := Cond.code y cc nL ret :: gd) B.pre
  have hown : s.vm.findClass y.cls = some m.cls := findClass_of_methodNamed B.named
  have hl := lv_entry as (n := nL) hn
  rw [lg_entry_eq]
  rw [hlv] at hl
  exact h p e s m _ below meth c s.heap [] _ ⟨B.exec, B.bytes, B.returns, hml, hown, B.notSynchronized, fun w hw => hts w (List.mem_cons_of_mem _ hw), hK, hJ, hT⟩ hP va_S.rf hl
theorem CT.mono {l : Launch} {g : Cx} {y : MethodName} {cc : ByteArray} {nL : Nat} {ret : Option FieldType} {fr lo : Nat} {as : List Value} {M : Mem} {P P' : Option Value → Mem → Prop} (h : CT l g y cc nL ret fr lo as M P) (hp : ∀ r M', P r M' → P' r M') : CT l g y cc nL ret fr lo as M P' := by
  intro p e ha hc hk s m args below hf hfit hheap happ
  obtain ⟨k, o, h1, h2, h3, ⟨⟨r, M', q1, q2, q3⟩, q4⟩, h5⟩ := h p e ha hc hk s m args below hf hfit hheap happ
  exact ⟨k, o, h1, h2, h3, ⟨⟨r, M', q1, hp r M' q2, q3⟩, q4⟩, h5⟩
def lvLe : List (Option Value) → List (Option Value) → Prop
  | [], _ => True
  | none :: a, b => lvLe a b.tail
  | some v :: a, b => b.head? = some (some v) ∧ lvLe a b.tail
theorem lvLe_0 {b : List (Option Value)} : lvLe [] b := trivial
theorem lvLe_n {a b : List (Option Value)} {x : Option Value} (h : lvLe a b) : lvLe (none :: a) (x :: b) := h
theorem lvLe_s {a b : List (Option Value)} {v : Value} (h : lvLe a b) : lvLe (some v :: a) (some v :: b) := ⟨rfl, h⟩
theorem lvA_le : ∀ (a b : List (Option Value)) (i : Nat), lvLe a b → ∀ q ∈ lvA i a, q ∈ lvA i b
  | [], _, _, _, q, hq => by cases hq
  | none :: a, b, i, h, q, hq => by
    cases b with
    | nil =>
      have h1 := lvA_le a [] (i + 1) h q hq
      cases h1
    | cons x t =>
      have h1 := lvA_le a t (i + 1) h q hq
      cases x with
      | none => exact h1
      | some w => exact List.mem_cons_of_mem _ h1
  | some v :: a, b, i, h, q, hq => by
    cases b with
    | nil => exact absurd h.1 (by simp)
    | cons x t =>
      obtain ⟨hx, ht⟩ := h
      cases (Option.some.inj hx : x = some v)
      rcases List.mem_cons.mp hq with rfl | h2
      · exact List.mem_cons_self
      · exact List.mem_cons_of_mem _ (lvA_le a t (i + 1) ht q h2)
theorem lvA_at : ∀ (a : List (Option Value)) (i k : Nat) (v : Value), a[k]? = some (some v) → (i + k, v) ∈ lvA i a
  | [], _, k, _, h => by simp at h
  | x :: t, i, 0, v, h => by
    have hx : x = some v := by simpa using h
    subst hx
    exact List.mem_cons_self
  | x :: t, i, k + 1, v, h => by
    have h1 := lvA_at t (i + 1) k v (by simpa using h)
    rw [show i + (k + 1) = i + 1 + k by omega]
    cases x with
    | none => exact h1
    | some w => exact List.mem_cons_of_mem _ h1
/-- what stands in the list behind a store: the new value, and what was there and isn't touched -/
theorem lvA_in : ∀ (a : List (Option Value)) (i : Nat) (q : Nat × Value), q ∈ lvA i a → i ≤ q.1 ∧ a[q.1 - i]? = some (some q.2)
  | [], _, q, h => by cases h
  | x :: t, i, q, h => by
    cases x with
    | none =>
      obtain ⟨h1, h2⟩ := lvA_in t (i + 1) q h
      refine ⟨by omega, ?_⟩
      rw [show q.1 - i = (q.1 - (i + 1)) + 1 by omega]
      simpa using h2
    | some w =>
      rcases List.mem_cons.mp h with rfl | h
      · exact ⟨Nat.le_refl _, by simp⟩
      · obtain ⟨h1, h2⟩ := lvA_in t (i + 1) q h
        refine ⟨by omega, ?_⟩
        rw [show q.1 - i = (q.1 - (i + 1)) + 1 by omega]
        simpa using h2
def okp : Option Value → Bool
  | some v => v.category != 2
  | none => true
theorem lv_keep1 {lv : List (Option Value)} {k : Nat} {v : Value} (hp : ∀ x, k ≠ 0 → lv[k - 1]? = some x → okp x = true) : ∀ q ∈ lvA 0 (lv.set k (some v)), q ∈ (k, v) :: (lvA 0 lv).filter (fun q => !(q.1 == k) && !(q.1 + 1 == k && q.2.category == 2)) := by
  intro q hq
  obtain ⟨-, h⟩ := lvA_in _ 0 q hq
  rw [Nat.sub_zero] at h
  by_cases hk : q.1 = k
  · have hl : k < lv.length := by
      have := (List.getElem?_eq_some_iff.mp h).1
      rw [List.length_set] at this
      omega
    rw [hk, List.getElem?_set_self hl] at h
    have hv : v = q.2 := by simpa using h
    rw [show q = (k, v) from Prod.ext hk hv.symm]
    exact List.mem_cons_self
  · rw [List.getElem?_set_ne (Ne.symm hk)] at h
    refine List.mem_cons_of_mem _ (List.mem_filter.mpr ⟨?_, ?_⟩)
    · have := lvA_at lv 0 q.1 q.2 h
      simpa using this
    · by_cases hk1 : q.1 + 1 = k
      · have h2 := hp (some q.2) (by omega) (by rw [show k - 1 = q.1 by omega]; exact h)
        simp only [okp] at h2
        have h3 : (q.1 == k) = false := by simpa using hk
        have h4 : (q.2.category == 2) = false := by simpa using h2
        simp [h3, h4]
      · have h3 : (q.1 == k) = false := by simpa using hk
        have h4 : (q.1 + 1 == k) = false := by simpa using hk1
        simp [h3, h4]
theorem lv_keep2 {lv : List (Option Value)} {k : Nat} {v : Value} (hp : ∀ x, k ≠ 0 → lv[k - 1]? = some x → okp x = true) : ∀ q ∈ lvA 0 ((lv.set k (some v)).set (k + 1) none), q ∈ (k, v) :: (lvA 0 lv).filter (fun q => !(q.1 == k) && (!(q.1 == k + 1) && !(q.1 + 1 == k && q.2.category == 2))) := by
  intro q hq
  obtain ⟨-, h⟩ := lvA_in _ 0 q hq
  rw [Nat.sub_zero] at h
  by_cases hk2 : q.1 = k + 1
  · exfalso
    have hl := (List.getElem?_eq_some_iff.mp h).1
    rw [List.length_set, hk2] at hl
    rw [hk2, List.getElem?_set_self hl] at h
    cases h
  rw [List.getElem?_set_ne (Ne.symm hk2)] at h
  by_cases hk : q.1 = k
  · have hl : k < lv.length := by
      have := (List.getElem?_eq_some_iff.mp h).1
      rw [List.length_set] at this
      omega
    rw [hk, List.getElem?_set_self hl] at h
    have hv : v = q.2 := by simpa using h
    rw [show q = (k, v) from Prod.ext hk hv.symm]
    exact List.mem_cons_self
  · rw [List.getElem?_set_ne (Ne.symm hk)] at h
    refine List.mem_cons_of_mem _ (List.mem_filter.mpr ⟨?_, ?_⟩)
    · have := lvA_at lv 0 q.1 q.2 h
      simpa using this
    · have h3 : (q.1 == k) = false := by simpa using hk
      have h5 : (q.1 == k + 1) = false := by simpa using hk2
      by_cases hk1 : q.1 + 1 = k
      · have h2 := hp (some q.2) (by omega) (by rw [show k - 1 = q.1 by omega]; exact h)
        simp only [okp] at h2
        have h4 : (q.2.category == 2) = false := by simpa using h2
        simp [h3, h4, h5]
      · have h4 : (q.1 + 1 == k) = false := by simpa using hk1
        simp [h3, h4, h5]
theorem lv_more {ls : Array Slot} {nL : Nat} {a b : List (Nat × Value)} (h : lv_has ls nL b) (hs : ∀ q ∈ a, q ∈ b) : lv_has ls nL a := ⟨h.1, h.2.1, fun q hq => h.2.2 q (hs q hq)⟩
