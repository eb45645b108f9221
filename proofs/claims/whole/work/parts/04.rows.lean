/-! ROWS of AT: an instruction each -/
def di (cc : ByteArray) (pc : Nat) (i : Instr) (len n : Nat) : Prop := decode cc pc = .ok (i, len) ∧ pc + len = n
def dj (cc : ByteArray) (pc : Nat) (mk : Int → Instr) (n tgt : Nat) : Prop := ∃ off : Int, decode cc pc = .ok (mk off, 3) ∧ pc + 3 = n ∧ (pc : Int) + off = (tgt : Int)
def FW (own : String) (idx ci j : Nat) : Prop := ∃ (C : String) (T : u_T) (N : Nat), cls[ci]? = some (C, T, N) ∧ j < N ∧ Cond.fieldLink own idx (T j).1 (T j).2.1 (T j).2.2.1 ∈ gd ∧ (∀ w ∈ u_ws C T N, w ∈ gd)
def PW (own : String) (idx ci j : Nat) : Prop := ∃ (C : String) (T : u_T) (N : Nat) (ty0 : Nat → FieldType), cls[ci]? = some (C, T, N) ∧ j < N ∧ Cond.fieldLink own idx (T j).1 (T j).2.1 (T j).2.2.1 ∈ gd ∧ (∀ w ∈ u_ws C T N, w ∈ gd) ∧ (∀ k, k < N → parseFieldDescriptor (T k).2.2.1 = some (ty0 k)) ∧ (∀ a, a < N → ∀ b, b < N → a ≠ b → (T a).2.1 ≠ (T b).2.1) ∧ (T j).2.2.2 = false ∧ parseFieldDescriptor (T j).2.2.1 = some .int
section ROWS
variable {l : Launch} {g : Cx} {own : String} {cc : ByteArray} {nL : Nat} {ret : Option FieldType} {R : Room} {P : Option Value → Mem → Prop} {pc n : Nat} {lv : List (Option Value)} {st : List Value} {M : Mem}
theorem A_iconst {z : Int} {v : Int32} (hd : di cc pc (.iconst z) 1 n) (hv : Int32.ofInt z = v) (k : AT l g own cc nL ret R P n lv (.int v :: st) M) : AT l g own cc nL ret R P pc lv (st) M := fun p e s m args below meth c H locs ls C hP hS hl => by
  obtain ⟨hd, rfl⟩ := hd
  exact lv_iconst C.1 C.2.1 hd hv (k p e s m args below meth c H locs ls C hP hS hl)
theorem A_bipush {z : Int} {v : Int32} (hd : di cc pc (.bipush z) 2 n) (hv : (Int8.ofInt z).toInt32 = v) (k : AT l g own cc nL ret R P n lv (.int v :: st) M) : AT l g own cc nL ret R P pc lv (st) M := fun p e s m args below meth c H locs ls C hP hS hl => by
  obtain ⟨hd, rfl⟩ := hd
  exact lv_bipush C.1 C.2.1 hd hv (k p e s m args below meth c H locs ls C hP hS hl)
theorem A_sipush {z : Int} {v : Int32} (hd : di cc pc (.sipush z) 3 n) (hv : (Int16.ofInt z).toInt32 = v) (k : AT l g own cc nL ret R P n lv (.int v :: st) M) : AT l g own cc nL ret R P pc lv (st) M := fun p e s m args below meth c H locs ls C hP hS hl => by
  obtain ⟨hd, rfl⟩ := hd
  exact lv_sipush C.1 C.2.1 hd hv (k p e s m args below meth c H locs ls C hP hS hl)
theorem A_lconst {z : Fin 2} {v : Int64} (hd : di cc pc (.lconst z) 1 n) (hv : Int64.ofNat (z : Nat) = v) (k : AT l g own cc nL ret R P n lv (.long v :: st) M) : AT l g own cc nL ret R P pc lv (st) M := fun p e s m args below meth c H locs ls C hP hS hl => by
  obtain ⟨hd, rfl⟩ := hd
  exact lv_lconst C.1 C.2.1 hd hv (k p e s m args below meth c H locs ls C hP hS hl)
theorem A_iload_n {i : Fin 4} {x : Int32} (hd : di cc pc (.iload_n i) 1 n) (hi : lv[(i : Nat)]? = some (some (.int x))) (k : AT l g own cc nL ret R P n lv (.int x :: st) M) : AT l g own cc nL ret R P pc lv st M := fun p e s m args below meth c H locs ls C hP hS hl => by
  obtain ⟨hd, rfl⟩ := hd
  have hq := hl.2.2 _ (lvA_at lv 0 _ _ hi)
  rw [Nat.zero_add] at hq
  exact lv_iload_n C.1 C.2.1 hd rfl hq (k p e s m args below meth c H locs ls C hP hS hl)
theorem A_iload {i : Nat} {x : Int32} (hd : di cc pc (.iload i) 2 n) (hi : lv[i]? = some (some (.int x))) (k : AT l g own cc nL ret R P n lv (.int x :: st) M) : AT l g own cc nL ret R P pc lv st M := fun p e s m args below meth c H locs ls C hP hS hl => by
  obtain ⟨hd, rfl⟩ := hd
  have hq := hl.2.2 _ (lvA_at lv 0 _ _ hi)
  rw [Nat.zero_add] at hq
  exact lv_iload C.1 C.2.1 hd hq (k p e s m args below meth c H locs ls C hP hS hl)
theorem A_lload_n {i : Fin 4} {x : Int64} (hd : di cc pc (.lload_n i) 1 n) (hi : lv[(i : Nat)]? = some (some (.long x))) (k : AT l g own cc nL ret R P n lv (.long x :: st) M) : AT l g own cc nL ret R P pc lv st M := fun p e s m args below meth c H locs ls C hP hS hl => by
  obtain ⟨hd, rfl⟩ := hd
  have hq := hl.2.2 _ (lvA_at lv 0 _ _ hi)
  rw [Nat.zero_add] at hq
  exact lv_lload_n C.1 C.2.1 hd rfl hq (k p e s m args below meth c H locs ls C hP hS hl)
theorem A_lload {i : Nat} {x : Int64} (hd : di cc pc (.lload i) 2 n) (hi : lv[i]? = some (some (.long x))) (k : AT l g own cc nL ret R P n lv (.long x :: st) M) : AT l g own cc nL ret R P pc lv st M := fun p e s m args below meth c H locs ls C hP hS hl => by
  obtain ⟨hd, rfl⟩ := hd
  have hq := hl.2.2 _ (lvA_at lv 0 _ _ hi)
  rw [Nat.zero_add] at hq
  exact lv_lload C.1 C.2.1 hd hq (k p e s m args below meth c H locs ls C hP hS hl)
theorem A_aload_n {i : Fin 4} {x : Nat} (hd : di cc pc (.aload_n i) 1 n) (hi : lv[(i : Nat)]? = some (some (.ref x))) (k : AT l g own cc nL ret R P n lv (.ref x :: st) M) : AT l g own cc nL ret R P pc lv st M := fun p e s m args below meth c H locs ls C hP hS hl => by
  obtain ⟨hd, rfl⟩ := hd
  have hq := hl.2.2 _ (lvA_at lv 0 _ _ hi)
  rw [Nat.zero_add] at hq
  exact lv_aload_n C.1 C.2.1 hd rfl hq (k p e s m args below meth c H locs ls C hP hS hl)
theorem A_aload {i : Nat} {x : Nat} (hd : di cc pc (.aload i) 2 n) (hi : lv[i]? = some (some (.ref x))) (k : AT l g own cc nL ret R P n lv (.ref x :: st) M) : AT l g own cc nL ret R P pc lv st M := fun p e s m args below meth c H locs ls C hP hS hl => by
  obtain ⟨hd, rfl⟩ := hd
  have hq := hl.2.2 _ (lvA_at lv 0 _ _ hi)
  rw [Nat.zero_add] at hq
  exact lv_aload C.1 C.2.1 hd hq (k p e s m args below meth c H locs ls C hP hS hl)
theorem A_istore_n {i : Fin 4} {x : Int32} (hd : di cc pc (.istore_n i) 1 n) (hn : (i : Nat) < nL) (hp : ∀ x, (i : Nat) ≠ 0 → lv[(i : Nat) - 1]? = some x → okp x = true) (k : AT l g own cc nL ret R P n (lv.set (i : Nat) (some (.int x))) st M) : AT l g own cc nL ret R P pc lv (.int x :: st) M := fun p e s m args below meth c H locs ls C hP hS hl => by
  obtain ⟨hd, rfl⟩ := hd
  exact lv_istore_n C.1 C.2.1 hd rfl hl hn rfl (fun ls2 hl2 => k p e s m args below meth c H locs ls2 C hP hS (lv_more hl2 (lv_keep1 hp)))
theorem A_istore {i : Nat} {x : Int32} (hd : di cc pc (.istore i) 2 n) (hn : i < nL) (hp : ∀ x, i ≠ 0 → lv[i - 1]? = some x → okp x = true) (k : AT l g own cc nL ret R P n (lv.set i (some (.int x))) st M) : AT l g own cc nL ret R P pc lv (.int x :: st) M := fun p e s m args below meth c H locs ls C hP hS hl => by
  obtain ⟨hd, rfl⟩ := hd
  exact lv_istore C.1 C.2.1 hd hl hn rfl (fun ls2 hl2 => k p e s m args below meth c H locs ls2 C hP hS (lv_more hl2 (lv_keep1 hp)))
theorem A_lstore_n {i : Fin 4} {x : Int64} (hd : di cc pc (.lstore_n i) 1 n) (hn : (i : Nat) + 1 < nL) (hp : ∀ x, (i : Nat) ≠ 0 → lv[(i : Nat) - 1]? = some x → okp x = true) (k : AT l g own cc nL ret R P n ((lv.set (i : Nat) (some (.long x))).set ((i : Nat) + 1) none) st M) : AT l g own cc nL ret R P pc lv (.long x :: st) M := fun p e s m args below meth c H locs ls C hP hS hl => by
  obtain ⟨hd, rfl⟩ := hd
  exact lv_lstore_n C.1 C.2.1 hd rfl hl hn rfl (fun ls2 hl2 => k p e s m args below meth c H locs ls2 C hP hS (lv_more hl2 (lv_keep2 hp)))
theorem A_lstore {i : Nat} {x : Int64} (hd : di cc pc (.lstore i) 2 n) (hn : i + 1 < nL) (hp : ∀ x, i ≠ 0 → lv[i - 1]? = some x → okp x = true) (k : AT l g own cc nL ret R P n ((lv.set i (some (.long x))).set (i + 1) none) st M) : AT l g own cc nL ret R P pc lv (.long x :: st) M := fun p e s m args below meth c H locs ls C hP hS hl => by
  obtain ⟨hd, rfl⟩ := hd
  exact lv_lstore C.1 C.2.1 hd hl hn rfl (fun ls2 hl2 => k p e s m args below meth c H locs ls2 C hP hS (lv_more hl2 (lv_keep2 hp)))
theorem A_astore_n {i : Fin 4} {x : Nat} (hd : di cc pc (.astore_n i) 1 n) (hn : (i : Nat) < nL) (hp : ∀ x, (i : Nat) ≠ 0 → lv[(i : Nat) - 1]? = some x → okp x = true) (k : AT l g own cc nL ret R P n (lv.set (i : Nat) (some (.ref x))) st M) : AT l g own cc nL ret R P pc lv (.ref x :: st) M := fun p e s m args below meth c H locs ls C hP hS hl => by
  obtain ⟨hd, rfl⟩ := hd
  exact lv_astore_n C.1 C.2.1 hd rfl hl hn rfl (fun ls2 hl2 => k p e s m args below meth c H locs ls2 C hP hS (lv_more hl2 (lv_keep1 hp)))
theorem A_iinc {i : Nat} {z : Int} {x d : Int32} (hd : di cc pc (.iinc i z) 3 n) (hi : lv[i]? = some (some (.int x))) (hv : Int32.ofInt z = d) (hn : i < nL) (hp : ∀ x, i ≠ 0 → lv[i - 1]? = some x → okp x = true) (k : AT l g own cc nL ret R P n (lv.set i (some (.int (x + d)))) st M) : AT l g own cc nL ret R P pc lv st M := fun p e s m args below meth c H locs ls C hP hS hl => by
  obtain ⟨hd, rfl⟩ := hd
  have hq := lvA_at lv 0 _ _ hi
  rw [Nat.zero_add] at hq
  obtain ⟨k0, hk0⟩ := List.getElem?_of_mem hq
  exact lv_iinc C.1 C.2.1 hd hl hk0 (by rw [hv]) hn rfl (fun ls2 hl2 => k p e s m args below meth c H locs ls2 C hP hS (lv_more hl2 (lv_keep1 hp)))
theorem A_iadd {x y : Int32} (hd : di cc pc (.iadd) 1 n) (k : AT l g own cc nL ret R P n lv (.int (x + y) :: st) M) : AT l g own cc nL ret R P pc lv (.int y :: .int x :: st) M := fun p e s m args below meth c H locs ls C hP hS hl => by
  obtain ⟨hd, rfl⟩ := hd
  exact lv_iadd C.1 C.2.1 hd (k p e s m args below meth c H locs ls C hP hS hl)
theorem A_isub {x y : Int32} (hd : di cc pc (.isub) 1 n) (k : AT l g own cc nL ret R P n lv (.int (x - y) :: st) M) : AT l g own cc nL ret R P pc lv (.int y :: .int x :: st) M := fun p e s m args below meth c H locs ls C hP hS hl => by
  obtain ⟨hd, rfl⟩ := hd
  exact lv_isub C.1 C.2.1 hd (k p e s m args below meth c H locs ls C hP hS hl)
theorem A_imul {x y : Int32} (hd : di cc pc (.imul) 1 n) (k : AT l g own cc nL ret R P n lv (.int (x * y) :: st) M) : AT l g own cc nL ret R P pc lv (.int y :: .int x :: st) M := fun p e s m args below meth c H locs ls C hP hS hl => by
  obtain ⟨hd, rfl⟩ := hd
  exact lv_imul C.1 C.2.1 hd (k p e s m args below meth c H locs ls C hP hS hl)
theorem A_iand {x y : Int32} (hd : di cc pc (.iand) 1 n) (k : AT l g own cc nL ret R P n lv (.int (x &&& y) :: st) M) : AT l g own cc nL ret R P pc lv (.int y :: .int x :: st) M := fun p e s m args below meth c H locs ls C hP hS hl => by
  obtain ⟨hd, rfl⟩ := hd
  exact lv_iand C.1 C.2.1 hd (k p e s m args below meth c H locs ls C hP hS hl)
theorem A_ior {x y : Int32} (hd : di cc pc (.ior) 1 n) (k : AT l g own cc nL ret R P n lv (.int (x ||| y) :: st) M) : AT l g own cc nL ret R P pc lv (.int y :: .int x :: st) M := fun p e s m args below meth c H locs ls C hP hS hl => by
  obtain ⟨hd, rfl⟩ := hd
  exact lv_ior C.1 C.2.1 hd (k p e s m args below meth c H locs ls C hP hS hl)
theorem A_ishl {x y : Int32} (hd : di cc pc (.ishl) 1 n) (k : AT l g own cc nL ret R P n lv (.int (x <<< (y &&& 31)) :: st) M) : AT l g own cc nL ret R P pc lv (.int y :: .int x :: st) M := fun p e s m args below meth c H locs ls C hP hS hl => by
  obtain ⟨hd, rfl⟩ := hd
  exact lv_ishl C.1 C.2.1 hd (k p e s m args below meth c H locs ls C hP hS hl)
theorem A_ishr {x y : Int32} (hd : di cc pc (.ishr) 1 n) (k : AT l g own cc nL ret R P n lv (.int (x >>> (y &&& 31)) :: st) M) : AT l g own cc nL ret R P pc lv (.int y :: .int x :: st) M := fun p e s m args below meth c H locs ls C hP hS hl => by
  obtain ⟨hd, rfl⟩ := hd
  exact lv_ishr C.1 C.2.1 hd (k p e s m args below meth c H locs ls C hP hS hl)
theorem A_idiv {x y : Int32} (hd : di cc pc (.idiv) 1 n) (hne : ¬ y = 0) (k : AT l g own cc nL ret R P n lv (.int (x / y) :: st) M) : AT l g own cc nL ret R P pc lv (.int y :: .int x :: st) M := fun p e s m args below meth c H locs ls C hP hS hl => by
  obtain ⟨hd, rfl⟩ := hd
  exact lv_idiv C.1 C.2.1 hd hne (k p e s m args below meth c H locs ls C hP hS hl)
theorem A_irem {x y : Int32} (hd : di cc pc (.irem) 1 n) (hne : ¬ y = 0) (k : AT l g own cc nL ret R P n lv (.int (x - x / y * y) :: st) M) : AT l g own cc nL ret R P pc lv (.int y :: .int x :: st) M := fun p e s m args below meth c H locs ls C hP hS hl => by
  obtain ⟨hd, rfl⟩ := hd
  exact lv_irem C.1 C.2.1 hd hne (k p e s m args below meth c H locs ls C hP hS hl)
theorem A_ineg {x : Int32} (hd : di cc pc (.ineg) 1 n) (k : AT l g own cc nL ret R P n lv (.int (-x) :: st) M) : AT l g own cc nL ret R P pc lv (.int x :: st) M := fun p e s m args below meth c H locs ls C hP hS hl => by
  obtain ⟨hd, rfl⟩ := hd
  exact lv_ineg C.1 C.2.1 hd (k p e s m args below meth c H locs ls C hP hS hl)
theorem A_ladd {x y : Int64} (hd : di cc pc (.ladd) 1 n) (k : AT l g own cc nL ret R P n lv (.long (x + y) :: st) M) : AT l g own cc nL ret R P pc lv (.long y :: .long x :: st) M := fun p e s m args below meth c H locs ls C hP hS hl => by
  obtain ⟨hd, rfl⟩ := hd
  exact lv_ladd C.1 C.2.1 hd (k p e s m args below meth c H locs ls C hP hS hl)
theorem A_lsub {x y : Int64} (hd : di cc pc (.lsub) 1 n) (k : AT l g own cc nL ret R P n lv (.long (x - y) :: st) M) : AT l g own cc nL ret R P pc lv (.long y :: .long x :: st) M := fun p e s m args below meth c H locs ls C hP hS hl => by
  obtain ⟨hd, rfl⟩ := hd
  exact lv_lsub C.1 C.2.1 hd (k p e s m args below meth c H locs ls C hP hS hl)
theorem A_lmul {x y : Int64} (hd : di cc pc (.lmul) 1 n) (k : AT l g own cc nL ret R P n lv (.long (x * y) :: st) M) : AT l g own cc nL ret R P pc lv (.long y :: .long x :: st) M := fun p e s m args below meth c H locs ls C hP hS hl => by
  obtain ⟨hd, rfl⟩ := hd
  exact lv_lmul C.1 C.2.1 hd (k p e s m args below meth c H locs ls C hP hS hl)
theorem A_ldiv {x y : Int64} (hd : di cc pc (.ldiv) 1 n) (hne : ¬ y = 0) (k : AT l g own cc nL ret R P n lv (.long (x / y) :: st) M) : AT l g own cc nL ret R P pc lv (.long y :: .long x :: st) M := fun p e s m args below meth c H locs ls C hP hS hl => by
  obtain ⟨hd, rfl⟩ := hd
  exact lv_ldiv C.1 C.2.1 hd hne (k p e s m args below meth c H locs ls C hP hS hl)
theorem A_i2l {x : Int32} (hd : di cc pc (.i2l) 1 n) (k : AT l g own cc nL ret R P n lv (.long x.toInt64 :: st) M) : AT l g own cc nL ret R P pc lv (.int x :: st) M := fun p e s m args below meth c H locs ls C hP hS hl => by
  obtain ⟨hd, rfl⟩ := hd
  exact lv_i2l C.1 C.2.1 hd rfl (k p e s m args below meth c H locs ls C hP hS hl)
theorem A_l2i {x : Int64} (hd : di cc pc (.l2i) 1 n) (k : AT l g own cc nL ret R P n lv (.int x.toInt32 :: st) M) : AT l g own cc nL ret R P pc lv (.long x :: st) M := fun p e s m args below meth c H locs ls C hP hS hl => by
  obtain ⟨hd, rfl⟩ := hd
  exact lv_l2i C.1 C.2.1 hd rfl (k p e s m args below meth c H locs ls C hP hS hl)
theorem A_i2c {x : Int32} (hd : di cc pc (.i2c) 1 n) (k : AT l g own cc nL ret R P n lv (.int (x.toUInt32 % 65536).toInt32 :: st) M) : AT l g own cc nL ret R P pc lv (.int x :: st) M := fun p e s m args below meth c H locs ls C hP hS hl => by
  obtain ⟨hd, rfl⟩ := hd
  exact lv_i2c C.1 C.2.1 hd rfl (k p e s m args below meth c H locs ls C hP hS hl)
theorem A_lcmp {x y : Int64} (hd : di cc pc (.lcmp) 1 n) (k : AT l g own cc nL ret R P n lv (.int (lg_cmp x y) :: st) M) : AT l g own cc nL ret R P pc lv (.long y :: .long x :: st) M := fun p e s m args below meth c H locs ls C hP hS hl => by
  obtain ⟨hd, rfl⟩ := hd
  exact W.lcmp C.1 C.2.1 hd (k p e s m args below meth c H locs ls C hP hS hl)
theorem A_dup {v : Value} (hd : di cc pc (.dup) 1 n) (hv : v.category = 1) (k : AT l g own cc nL ret R P n lv (v :: v :: st) M) : AT l g own cc nL ret R P pc lv (v :: st) M := fun p e s m args below meth c H locs ls C hP hS hl => by
  obtain ⟨hd, rfl⟩ := hd
  exact lv_dup C.1 C.2.1 hd hv (k p e s m args below meth c H locs ls C hP hS hl)
theorem A_pop {v : Value} (hd : di cc pc (.pop) 1 n) (hv : v.category = 1) (k : AT l g own cc nL ret R P n lv (st) M) : AT l g own cc nL ret R P pc lv (v :: st) M := fun p e s m args below meth c H locs ls C hP hS hl => by
  obtain ⟨hd, rfl⟩ := hd
  exact lv_pop C.1 C.2.1 hd hv (k p e s m args below meth c H locs ls C hP hS hl)
theorem A_dup2 {v w : Value} (hd : di cc pc (.dup2) 1 n) (hv : v.category = 1) (hw : w.category = 1) (k : AT l g own cc nL ret R P n lv (v :: w :: v :: w :: st) M) : AT l g own cc nL ret R P pc lv (v :: w :: st) M := fun p e s m args below meth c H locs ls C hP hS hl => by
  obtain ⟨hd, rfl⟩ := hd
  exact lv_dup2_11 C.1 C.2.1 hd hv hw (k p e s m args below meth c H locs ls C hP hS hl)
theorem A_ldc {idx : Nat} {v : Int32} (hd : di cc pc (.ldc idx) 2 n) (hw : Cond.constant own idx v ∈ gd) (k : AT l g own cc nL ret R P n lv (.int v :: st) M) : AT l g own cc nL ret R P pc lv (st) M := fun p e s m args below meth c H locs ls C hP hS hl => by
  obtain ⟨hd, rfl⟩ := hd
  exact lv_ldc C.1 C.2.1 C.2.2.2.2.1 (C.2.2.2.2.2.2.1 _ hw) hd (k p e s m args below meth c H locs ls C hP hS hl)
theorem A_ldcw {idx : Nat} {v : Int32} (hd : di cc pc (.ldc_w idx) 3 n) (hw : Cond.constant own idx v ∈ gd) (k : AT l g own cc nL ret R P n lv (.int v :: st) M) : AT l g own cc nL ret R P pc lv (st) M := fun p e s m args below meth c H locs ls C hP hS hl => by
  obtain ⟨hd, rfl⟩ := hd
  exact lv_ldcw C.1 C.2.1 C.2.2.2.2.1 (C.2.2.2.2.2.2.1 _ hw) hd (k p e s m args below meth c H locs ls C hP hS hl)
theorem A_ldc2 {idx : Nat} {v : Int64} (hd : di cc pc (.ldc2_w idx) 3 n) (hw : Cond.constantLong own idx v ∈ gd) (k : AT l g own cc nL ret R P n lv (.long v :: st) M) : AT l g own cc nL ret R P pc lv (st) M := fun p e s m args below meth c H locs ls C hP hS hl => by
  obtain ⟨hd, rfl⟩ := hd
  exact lv_ldc2 C.1 C.2.1 C.2.2.2.2.1 (C.2.2.2.2.2.2.1 _ hw) hd (k p e s m args below meth c H locs ls C hP hS hl)
theorem A_icmp_eq {x y : Int32} {tgt : Nat} (hd : dj cc pc (.if_icmp .eq) n tgt) (kt : x = y → AT l g own cc nL ret R P tgt lv st M) (kf : ¬ x = y → AT l g own cc nL ret R P n lv st M) : AT l g own cc nL ret R P pc lv (.int y :: .int x :: st) M := fun p e s m args below meth c H locs ls C hP hS hl => by
  obtain ⟨off, hd, rfl, ht⟩ := hd
  exact lv_icmp_eq C.1 C.2.1 hd ht (fun h => kt h p e s m args below meth c H locs ls C hP hS hl) (fun h => kf h p e s m args below meth c H locs ls C hP hS hl)
theorem A_icmp_ne {x y : Int32} {tgt : Nat} (hd : dj cc pc (.if_icmp .ne) n tgt) (kt : ¬ x = y → AT l g own cc nL ret R P tgt lv st M) (kf : x = y → AT l g own cc nL ret R P n lv st M) : AT l g own cc nL ret R P pc lv (.int y :: .int x :: st) M := fun p e s m args below meth c H locs ls C hP hS hl => by
  obtain ⟨off, hd, rfl, ht⟩ := hd
  exact lv_icmp_ne C.1 C.2.1 hd ht (fun h => kt h p e s m args below meth c H locs ls C hP hS hl) (fun h => kf h p e s m args below meth c H locs ls C hP hS hl)
theorem A_icmp_lt {x y : Int32} {tgt : Nat} (hd : dj cc pc (.if_icmp .lt) n tgt) (kt : x < y → AT l g own cc nL ret R P tgt lv st M) (kf : ¬ x < y → AT l g own cc nL ret R P n lv st M) : AT l g own cc nL ret R P pc lv (.int y :: .int x :: st) M := fun p e s m args below meth c H locs ls C hP hS hl => by
  obtain ⟨off, hd, rfl, ht⟩ := hd
  exact lv_icmp_lt C.1 C.2.1 hd ht (fun h => kt h p e s m args below meth c H locs ls C hP hS hl) (fun h => kf h p e s m args below meth c H locs ls C hP hS hl)
theorem A_icmp_ge {x y : Int32} {tgt : Nat} (hd : dj cc pc (.if_icmp .ge) n tgt) (kt : y ≤ x → AT l g own cc nL ret R P tgt lv st M) (kf : ¬ y ≤ x → AT l g own cc nL ret R P n lv st M) : AT l g own cc nL ret R P pc lv (.int y :: .int x :: st) M := fun p e s m args below meth c H locs ls C hP hS hl => by
  obtain ⟨off, hd, rfl, ht⟩ := hd
  exact lv_icmp_ge C.1 C.2.1 hd ht (fun h => kt h p e s m args below meth c H locs ls C hP hS hl) (fun h => kf h p e s m args below meth c H locs ls C hP hS hl)
theorem A_icmp_gt {x y : Int32} {tgt : Nat} (hd : dj cc pc (.if_icmp .gt) n tgt) (kt : y < x → AT l g own cc nL ret R P tgt lv st M) (kf : ¬ y < x → AT l g own cc nL ret R P n lv st M) : AT l g own cc nL ret R P pc lv (.int y :: .int x :: st) M := fun p e s m args below meth c H locs ls C hP hS hl => by
  obtain ⟨off, hd, rfl, ht⟩ := hd
  exact lv_icmp_gt C.1 C.2.1 hd ht (fun h => kt h p e s m args below meth c H locs ls C hP hS hl) (fun h => kf h p e s m args below meth c H locs ls C hP hS hl)
theorem A_icmp_le {x y : Int32} {tgt : Nat} (hd : dj cc pc (.if_icmp .le) n tgt) (kt : x ≤ y → AT l g own cc nL ret R P tgt lv st M) (kf : ¬ x ≤ y → AT l g own cc nL ret R P n lv st M) : AT l g own cc nL ret R P pc lv (.int y :: .int x :: st) M := fun p e s m args below meth c H locs ls C hP hS hl => by
  obtain ⟨off, hd, rfl, ht⟩ := hd
  exact lv_icmp_le C.1 C.2.1 hd ht (fun h => kt h p e s m args below meth c H locs ls C hP hS hl) (fun h => kf h p e s m args below meth c H locs ls C hP hS hl)
theorem A_if_eq {x : Int32} {tgt : Nat} (hd : dj cc pc (.ifCond .eq) n tgt) (kt : x = 0 → AT l g own cc nL ret R P tgt lv st M) (kf : ¬ x = 0 → AT l g own cc nL ret R P n lv st M) : AT l g own cc nL ret R P pc lv (.int x :: st) M := fun p e s m args below meth c H locs ls C hP hS hl => by
  obtain ⟨off, hd, rfl, ht⟩ := hd
  exact lv_if_eq C.1 C.2.1 hd ht (fun h => kt h p e s m args below meth c H locs ls C hP hS hl) (fun h => kf h p e s m args below meth c H locs ls C hP hS hl)
theorem A_if_ne {x : Int32} {tgt : Nat} (hd : dj cc pc (.ifCond .ne) n tgt) (kt : ¬ x = 0 → AT l g own cc nL ret R P tgt lv st M) (kf : x = 0 → AT l g own cc nL ret R P n lv st M) : AT l g own cc nL ret R P pc lv (.int x :: st) M := fun p e s m args below meth c H locs ls C hP hS hl => by
  obtain ⟨off, hd, rfl, ht⟩ := hd
  exact lv_if_ne C.1 C.2.1 hd ht (fun h => kt h p e s m args below meth c H locs ls C hP hS hl) (fun h => kf h p e s m args below meth c H locs ls C hP hS hl)
theorem A_if_lt {x : Int32} {tgt : Nat} (hd : dj cc pc (.ifCond .lt) n tgt) (kt : x < 0 → AT l g own cc nL ret R P tgt lv st M) (kf : ¬ x < 0 → AT l g own cc nL ret R P n lv st M) : AT l g own cc nL ret R P pc lv (.int x :: st) M := fun p e s m args below meth c H locs ls C hP hS hl => by
  obtain ⟨off, hd, rfl, ht⟩ := hd
  exact lv_if_lt C.1 C.2.1 hd ht (fun h => kt h p e s m args below meth c H locs ls C hP hS hl) (fun h => kf h p e s m args below meth c H locs ls C hP hS hl)
theorem A_if_ge {x : Int32} {tgt : Nat} (hd : dj cc pc (.ifCond .ge) n tgt) (kt : 0 ≤ x → AT l g own cc nL ret R P tgt lv st M) (kf : ¬ 0 ≤ x → AT l g own cc nL ret R P n lv st M) : AT l g own cc nL ret R P pc lv (.int x :: st) M := fun p e s m args below meth c H locs ls C hP hS hl => by
  obtain ⟨off, hd, rfl, ht⟩ := hd
  exact lv_if_ge C.1 C.2.1 hd ht (fun h => kt h p e s m args below meth c H locs ls C hP hS hl) (fun h => kf h p e s m args below meth c H locs ls C hP hS hl)
theorem A_if_gt {x : Int32} {tgt : Nat} (hd : dj cc pc (.ifCond .gt) n tgt) (kt : 0 < x → AT l g own cc nL ret R P tgt lv st M) (kf : ¬ 0 < x → AT l g own cc nL ret R P n lv st M) : AT l g own cc nL ret R P pc lv (.int x :: st) M := fun p e s m args below meth c H locs ls C hP hS hl => by
  obtain ⟨off, hd, rfl, ht⟩ := hd
  exact lv_if_gt C.1 C.2.1 hd ht (fun h => kt h p e s m args below meth c H locs ls C hP hS hl) (fun h => kf h p e s m args below meth c H locs ls C hP hS hl)
theorem A_if_le {x : Int32} {tgt : Nat} (hd : dj cc pc (.ifCond .le) n tgt) (kt : x ≤ 0 → AT l g own cc nL ret R P tgt lv st M) (kf : ¬ x ≤ 0 → AT l g own cc nL ret R P n lv st M) : AT l g own cc nL ret R P pc lv (.int x :: st) M := fun p e s m args below meth c H locs ls C hP hS hl => by
  obtain ⟨off, hd, rfl, ht⟩ := hd
  exact lv_if_le C.1 C.2.1 hd ht (fun h => kt h p e s m args below meth c H locs ls C hP hS hl) (fun h => kf h p e s m args below meth c H locs ls C hP hS hl)
theorem A_goto {tgt : Nat} (hd : dj cc pc .goto n tgt) (k : AT l g own cc nL ret R P tgt lv st M) : AT l g own cc nL ret R P pc lv st M := fun p e s m args below meth c H locs ls C hP hS hl => by
  obtain ⟨off, hd, rfl, ht⟩ := hd
  exact lv_goto C.1 C.2.1 hd ht (k p e s m args below meth c H locs ls C hP hS hl)
theorem A_le {lv' : List (Option Value)} (h : lvLe lv' lv) (k : AT l g own cc nL ret R P pc lv' st M) : AT l g own cc nL ret R P pc lv st M := fun p e s m args below meth c H locs ls C hP hS hl => k p e s m args below meth c H locs ls C hP hS (lv_more hl (lvA_le _ _ 0 h))
def dts (cc : ByteArray) (pc : Nat) (lo hi : Int) (dfl : Nat) (tg : List Nat) : Prop := ∃ (d : Int) (offs : Array Int) (len : Nat), decode cc pc = .ok (.tableswitch d lo hi offs, len) ∧ (pc : Int) + d = (dfl : Int) ∧ offs.toList.map (fun z => (pc : Int) + z) = tg.map (fun t : Nat => (t : Int))
theorem A_tsIn {x : Int32} {lo hi : Int} {dfl tgt k0 : Nat} {tg : List Nat} (hd : dts cc pc lo hi dfl tg) (hx : ¬ x.toInt < lo ∧ ¬ hi < x.toInt ∧ (x.toInt - lo).toNat = k0) (ht : tg[k0]? = some tgt) (k : AT l g own cc nL ret R P tgt lv st M) : AT l g own cc nL ret R P pc lv (.int x :: st) M := fun p e s m args below meth c H locs ls C hP hS hl => by
  obtain ⟨d, offs, len, hd, h0, h1⟩ := hd
  have h2 : (offs.toList.map (fun z => (pc : Int) + z))[k0]? = some (tgt : Int) := by rw [h1, List.getElem?_map, ht]; rfl
  rw [List.getElem?_map] at h2
  cases ho : offs.toList[k0]? with
  | none => rw [ho] at h2; cases h2
  | some off =>
    rw [ho] at h2
    exact lv_tableIn C.1 C.2.1 hd hx.1 hx.2.1 (by rw [hx.2.2, ← Array.getElem?_toList]; exact ho) (Option.some.inj h2) (k p e s m args below meth c H locs ls C hP hS hl)
theorem A_tsOut {x : Int32} {lo hi : Int} {dfl : Nat} {tg : List Nat} (hd : dts cc pc lo hi dfl tg) (hx : x.toInt < lo ∨ hi < x.toInt) (k : AT l g own cc nL ret R P dfl lv st M) : AT l g own cc nL ret R P pc lv (.int x :: st) M := fun p e s m args below meth c H locs ls C hP hS hl => by
  obtain ⟨d, offs, len, hd, h0, h1⟩ := hd
  exact lv_tableOut C.1 C.2.1 hd hx h0 (k p e s m args below meth c H locs ls C hP hS hl)
theorem tsw_out {x : Int32} {lo hi : Int} (h : ∀ k : Int, lo ≤ k → k ≤ hi → ¬ x = Int32.ofInt k) : x.toInt < lo ∨ hi < x.toInt := by
  rcases Int.lt_or_le x.toInt lo with h1 | h1
  · exact Or.inl h1
  · rcases Int.lt_or_le hi x.toInt with h2 | h2
    · exact Or.inr h2
    · exact absurd (Int32.ofInt_toInt x).symm (h x.toInt h1 h2)
theorem A_getf {idx ci j q : Nat} {fs : Cx → Mem → List Value} {v : Value} (hd : di cc pc (.getfield idx) 3 n) (hf : FW own idx ci j) (hq : OB q ci fs) (hv : (fs g M)[j]? = some v) (k : AT l g own cc nL ret R P n lv (v :: st) M) : AT l g own cc nL ret R P pc lv (.ref (g.1 q) :: st) M := fun p e s m args below meth c H locs ls C hP hS hl => by
  obtain ⟨hd, rfl⟩ := hd
  obtain ⟨CC, T, N, h1, h2, h3, h4⟩ := hf
  exact va_get (D := g.2.1) (cl := cls) C.1 C.2.1 C.2.2.2.2.2.2.1 h4 C.2.2.2.2.1 C.2.2.2.2.2.2.2.1 hP q (hq g M) h1 j h2 (C.2.2.2.2.2.2.1 _ h3) (fun _ h => h) hv hd (k p e s m args below meth c H locs ls C hP hS hl)
theorem A_putf {idx ci j q : Nat} {fs : Cx → Mem → List Value} {x : Int32} (hd : di cc pc (.putfield idx) 3 n) (hf : PW own idx ci j) (hq : OB q ci fs) (hs : PF q ci j fs) (hj : j < (fs g M).length) (k : AT l g own cc nL ret R P n lv st (up2 M q j x)) : AT l g own cc nL ret R P pc lv (.int x :: .ref (g.1 q) :: st) M := fun p e s m args below meth c H locs ls C hP hS hl => by
  obtain ⟨hd, rfl⟩ := hd
  obtain ⟨CC, T, N, ty0, h1, h2, h3, h4, h5, h6, h7, h8⟩ := hf
  refine va_put (D := g.2.1) (cl := cls) (ty := .int) C.1 C.2.1 C.2.2.2.2.2.2.1 h4 ty0 h5 h6 C.2.2.2.2.1 C.2.2.2.2.2.2.2.1 hP (wl_D C.2.2.2.2.2.2.2.2.1 M) hS q (hq g M) h1 j h2 (C.2.2.2.2.2.2.1 _ h3) (fun _ h => h) h7 h8 rfl rfl hj hd (fun H1 locs1 hP1 hD1 hS1 => ?_)
  rw [hs g M x] at hP1
  exact k p e s m args below meth c H1 locs1 ls C hP1 hS1 hl
theorem A_iald {q N : Nat} {i : Int32} (hd : di cc pc .iaload 1 n) (hq : IA q N) (hi : vp_in i N) (k : AT l g own cc nL ret R P n lv (.int (M.1 q i.toNatClampNeg) :: st) M) : AT l g own cc nL ret R P pc lv (.int i :: .ref (g.1 q) :: st) M := fun p e s m args below meth c H locs ls C hP hS hl => by
  obtain ⟨hd, rfl⟩ := hd
  exact va_iald C.1 C.2.1 C.2.2.2.2.2.2.2.1 hP q 0 (hq.1 g M) rfl hi hd (k p e s m args below meth c H locs ls C hP hS hl)
theorem A_zald {q N : Nat} {i : Int32} (hd : di cc pc .baload 1 n) (hq : ZA q N) (hi : vp_in i N) (k : AT l g own cc nL ret R P n lv (.int (M.1 q i.toNatClampNeg) :: st) M) : AT l g own cc nL ret R P pc lv (.int i :: .ref (g.1 q) :: st) M := fun p e s m args below meth c H locs ls C hP hS hl => by
  obtain ⟨hd, rfl⟩ := hd
  exact va_zald C.1 C.2.1 C.2.2.2.2.2.2.2.1 hP q 1 (hq.1 g M) rfl hi hd (k p e s m args below meth c H locs ls C hP hS hl)
theorem A_lald {q N : Nat} {i : Int32} (hd : di cc pc .laload 1 n) (hq : LA q N) (hi : vp_in i N) (k : AT l g own cc nL ret R P n lv (.long (M.2 i.toNatClampNeg) :: st) M) : AT l g own cc nL ret R P pc lv (.int i :: .ref (g.1 q) :: st) M := fun p e s m args below meth c H locs ls C hP hS hl => by
  obtain ⟨hd, rfl⟩ := hd
  exact va_lald C.1 C.2.1 C.2.2.2.2.2.2.2.1 hP q 2 (hq.1 g M) rfl hi hd (k p e s m args below meth c H locs ls C hP hS hl)
theorem A_iast {q N : Nat} {i x : Int32} (hd : di cc pc .iastore 1 n) (hq : IA q N) (hi : vp_in i N) (k : AT l g own cc nL ret R P n lv st (up2 M q i.toNatClampNeg x)) : AT l g own cc nL ret R P pc lv (.int x :: .int i :: .ref (g.1 q) :: st) M := fun p e s m args below meth c H locs ls C hP hS hl => by
  obtain ⟨hd, rfl⟩ := hd
  refine va_iast C.1 C.2.1 C.2.2.2.2.2.2.2.1 hP (wl_D C.2.2.2.2.2.2.2.2.1 M) hS q 0 (hq.1 g M) rfl hi hd (fun H1 locs1 hP1 hD1 hS1 => ?_)
  rw [hq.2 g M] at hP1
  exact k p e s m args below meth c H1 locs1 ls C hP1 hS1 hl
theorem A_zast {q N : Nat} {i x : Int32} (hd : di cc pc .bastore 1 n) (hq : ZA q N) (hi : vp_in i N) (k : AT l g own cc nL ret R P n lv st (up2 M q i.toNatClampNeg (x &&& 1))) : AT l g own cc nL ret R P pc lv (.int x :: .int i :: .ref (g.1 q) :: st) M := fun p e s m args below meth c H locs ls C hP hS hl => by
  obtain ⟨hd, rfl⟩ := hd
  refine va_zast C.1 C.2.1 C.2.2.2.2.2.2.2.1 hP (wl_D C.2.2.2.2.2.2.2.2.1 M) hS q 1 (hq.1 g M) rfl hi hd (fun H1 locs1 hP1 hD1 hS1 => ?_)
  rw [hq.2 g M] at hP1
  exact k p e s m args below meth c H1 locs1 ls C hP1 hS1 hl
theorem A_last {q N : Nat} {i : Int32} {x : Int64} (hd : di cc pc .lastore 1 n) (hq : LA q N) (hi : vp_in i N) (k : AT l g own cc nL ret R P n lv st (upL M i.toNatClampNeg x)) : AT l g own cc nL ret R P pc lv (.long x :: .int i :: .ref (g.1 q) :: st) M := fun p e s m args below meth c H locs ls C hP hS hl => by
  obtain ⟨hd, rfl⟩ := hd
  refine va_last C.1 C.2.1 C.2.2.2.2.2.2.2.1 hP (wl_D C.2.2.2.2.2.2.2.2.1 M) hS q 2 (hq.1 g M) rfl hi hd (fun H1 locs1 hP1 hD1 hS1 => ?_)
  rw [hq.2 g M] at hP1
  exact k p e s m args below meth c H1 locs1 ls C hP1 hS1 hl
theorem A_alen {q N : Nat} {v : Int32} (hd : di cc pc .arraylength 1 n) (hq : IA q N) (hv : Int32.ofNat N = v) (k : AT l g own cc nL ret R P n lv (.int v :: st) M) : AT l g own cc nL ret R P pc lv (.ref (g.1 q) :: st) M := fun p e s m args below meth c H locs ls C hP hS hl => by
  obtain ⟨hd, rfl⟩ := hd
  exact va_alen C.1 C.2.1 C.2.2.2.2.2.2.2.1 hP q 0 (hq.1 g M) (ty := .int) rfl hv hd (k p e s m args below meth c H locs ls C hP hS hl)
theorem A_alenL {q N : Nat} {v : Int32} (hd : di cc pc .arraylength 1 n) (hq : LA q N) (hv : Int32.ofNat N = v) (k : AT l g own cc nL ret R P n lv (.int v :: st) M) : AT l g own cc nL ret R P pc lv (.ref (g.1 q) :: st) M := fun p e s m args below meth c H locs ls C hP hS hl => by
  obtain ⟨hd, rfl⟩ := hd
  exact va_alen C.1 C.2.1 C.2.2.2.2.2.2.2.1 hP q 2 (hq.1 g M) (ty := .long) rfl hv hd (k p e s m args below meth c H locs ls C hP hS hl)
/-- a row of the table of ways -/
theorem A_aald {i : Int32} (hd : di cc pc .aaload 1 n) (hi : vp_in i 15) (k : AT l g own cc nL ret R P n lv (.ref (g.1 (51 + i.toNatClampNeg)) :: st) M) : AT l g own cc nL ret R P pc lv (.int i :: .ref (g.1 50) :: st) M := fun p e s m args below meth c H locs ls C hP hS hl => by
  obtain ⟨hd, rfl⟩ := hd
  have hlt : i.toNatClampNeg < 15 := Nat.not_le.mp fun q => hi (Or.inr q)
  have hK := C.2.2.2.2.2.2.2.1
  have hv : va_rf ((fun i => if i < 15 then some (g.1 (51 + i)) else none) i.toNatClampNeg) = .ref (g.1 (51 + i.toNatClampNeg)) := by
    show va_rf (if i.toNatClampNeg < 15 then some (g.1 (51 + i.toNatClampNeg)) else none) = _
    rw [if_pos hlt]; rfl
  have hk := k p e s m args below meth c H locs ls C hP hS hl
  rw [← hv] at hk
  exact W.aald (v := va_rf ((fun i => if i < 15 then some (g.1 (51 + i)) else none) i.toNatClampNeg)) (ty := .array .int) C.1 C.2.1 (hP 50 _ (waW g M)) ((hK.2 3 _ rfl).1 15 (fun j => va_rf ((fun i => if i < 15 then some (g.1 (51 + i)) else none) j))) rfl (fun q => by cases q) (by show ¬ (i < 0 ∨ (arrV _ _ _).slots.size ≤ _); rw [arrV_size]; exact hi) (by show (arrV _ _ _).slots[_]? = _; rw [arrV_read _ _ hlt]) rfl rfl hd hk
/-- a static that nobody writes -/
theorem A_gets {idx : Nat} {Cn nm d : String} {v : Value} (hd : di cc pc (.getstatic idx) 3 n) (hw : Cond.fieldLink own idx Cn nm d ∈ gd) (hz : ∀ (A : Nat → Prop) (U : State) (H : Heap), ST g A U H → va_Z Cn nm d v A U H) (k : AT l g own cc nL ret R P n lv (v :: st) M) : AT l g own cc nL ret R P pc lv st M := fun p e s m args below meth c H locs ls C hP hS hl => by
  obtain ⟨hd, rfl⟩ := hd
  exact va_gets C.1 C.2.1 (hz _ _ _ C.2.2.2.2.2.2.2.2.2) hS C.2.2.2.2.1 (C.2.2.2.2.2.2.1 _ hw) (fun _ h => h) hd (k p e s m args below meth c H locs ls C hP hS hl)
theorem A_tald {t N : Nat} {f : Nat → Int32} {i : Int32} (hd : di cc pc .iaload 1 n) (hz : ∀ (A : Nat → Prop) (U : State) (H : Heap), ST g A U H → va_T .int t N (fun j => .int (f j)) A U H) (hi : vp_in i N) (k : AT l g own cc nL ret R P n lv (.int (f i.toNatClampNeg) :: st) M) : AT l g own cc nL ret R P pc lv (.int i :: .ref t :: st) M := fun p e s m args below meth c H locs ls C hP hS hl => by
  obtain ⟨hd, rfl⟩ := hd
  exact va_ti C.1 C.2.1 (hz _ _ _ C.2.2.2.2.2.2.2.2.2) hS hi rfl hd (k p e s m args below meth c H locs ls C hP hS hl)
theorem A_tlen {t N : Nat} {f : Nat → Int32} {v : Int32} (hd : di cc pc .arraylength 1 n) (hz : ∀ (A : Nat → Prop) (U : State) (H : Heap), ST g A U H → va_T .int t N (fun j => .int (f j)) A U H) (hv : Int32.ofNat N = v) (k : AT l g own cc nL ret R P n lv (.int v :: st) M) : AT l g own cc nL ret R P pc lv (.ref t :: st) M := fun p e s m args below meth c H locs ls C hP hS hl => by
  obtain ⟨hd, rfl⟩ := hd
  exact va_tlen C.1 C.2.1 (hz _ _ _ C.2.2.2.2.2.2.2.2.2) hS hv hd (k p e s m args below meth c H locs ls C hP hS hl)
theorem A_iret {v : Int32} (hd : di cc pc .ireturn 1 n) (h : P (some (.int v)) M) : AT l g own cc nL (some .int) R P pc lv [.int v] M := fun p e s m args below meth c H locs ls C hP hS hl => by
  obtain ⟨hd, rfl⟩ := hd
  exact W.iret C.1 C.2.1 C.2.2.1 (fun t ht hW => ⟨⟨_, M, rfl, h, by rw [ht]; exact hP⟩, hS.F ht⟩) hS.2.2 hd (hlocks := C.2.2.2.2.2.1)
theorem A_zret {v : Int32} (hd : di cc pc .ireturn 1 n) (hv : v &&& 1 = v) (h : P (some (.int v)) M) : AT l g own cc nL (some .boolean) R P pc lv [.int v] M := fun p e s m args below meth c H locs ls C hP hS hl => by
  obtain ⟨hd, rfl⟩ := hd
  exact W.zret C.1 C.2.1 C.2.2.1 (by show Value.int (v &&& 1) = _; rw [hv]) (fun t ht hW => ⟨⟨_, M, rfl, h, by rw [ht]; exact hP⟩, hS.F ht⟩) hS.2.2 hd (hlocks := C.2.2.2.2.2.1)
theorem A_cret {v : Int32} {ty : FieldType} (hd : di cc pc .ireturn 1 n) (hv : narrow ty (.int v) = .int v) (h : P (some (.int v)) M) : AT l g own cc nL (some ty) R P pc lv [.int v] M := fun p e s m args below meth c H locs ls C hP hS hl => by
  obtain ⟨hd, rfl⟩ := hd
  exact W.zret C.1 C.2.1 C.2.2.1 hv (fun t ht hW => ⟨⟨_, M, rfl, h, by rw [ht]; exact hP⟩, hS.F ht⟩) hS.2.2 hd (hlocks := C.2.2.2.2.2.1)
theorem A_vret (hd : di cc pc .return_ 1 n) (h : P none M) : AT l g own cc nL (none) R P pc lv [] M := fun p e s m args below meth c H locs ls C hP hS hl => by
  obtain ⟨hd, rfl⟩ := hd
  exact W.vret C.1 C.2.1 C.2.2.1 (fun t ht hW => ⟨⟨_, M, rfl, h, by rw [ht]; exact hP⟩, hS.F ht⟩) hS.2.2 hd (hlocks := C.2.2.2.2.2.1)
theorem A_aret {x : Nat} {nm : String} (hd : di cc pc .areturn 1 n) (h : P (some (.ref x)) M) : AT l g own cc nL (some (.object nm)) R P pc lv [.ref x] M := fun p e s m args below meth c H locs ls C hP hS hl => by
  obtain ⟨hd, rfl⟩ := hd
  exact W.aret C.1 C.2.1 C.2.2.1 (Or.inl ⟨_, rfl⟩) (Or.inr ⟨_, rfl⟩) (fun t ht hW => ⟨⟨_, M, rfl, h, by rw [ht]; exact hP⟩, hS.F ht⟩) hS.2.2 hd (hlocks := C.2.2.2.2.2.1)
end ROWS
section STO
variable {l : Launch} {g : Cx} {own : String} {cc : ByteArray} {nL : Nat} {ret : Option FieldType} {R : Room} {P : Option Value → Mem → Prop} {pc n : Nat} {lv : List (Option Value)} {st : List Value} {M : Mem}
theorem A_istore0 {a0 : Option Value} {t : List (Option Value)} {x : Int32} (hd : di cc pc (.istore 0) 2 n) (hn : 0 < nL) (k : AT l g own cc nL ret R P n (some (.int x) :: t) st M) : AT l g own cc nL ret R P pc (a0 :: t) (.int x :: st) M := A_istore hd hn (fun x h0 _ => absurd rfl h0) k
theorem A_istoren0 {a0 : Option Value} {t : List (Option Value)} {x : Int32} (hd : di cc pc (.istore_n 0) 1 n) (hn : 0 < nL) (k : AT l g own cc nL ret R P n (some (.int x) :: t) st M) : AT l g own cc nL ret R P pc (a0 :: t) (.int x :: st) M := A_istore_n hd hn (fun x h0 _ => absurd rfl h0) k
theorem A_astoren0 {a0 : Option Value} {t : List (Option Value)} {x : Nat} (hd : di cc pc (.astore_n 0) 1 n) (hn : 0 < nL) (k : AT l g own cc nL ret R P n (some (.ref x) :: t) st M) : AT l g own cc nL ret R P pc (a0 :: t) (.ref x :: st) M := A_astore_n hd hn (fun x h0 _ => absurd rfl h0) k
theorem A_iinc0 {t : List (Option Value)} {z : Int} {x d : Int32} (hd : di cc pc (.iinc 0 z) 3 n) (hv : Int32.ofInt z = d) (hn : 0 < nL) (k : AT l g own cc nL ret R P n (some (.int (x + d)) :: t) st M) : AT l g own cc nL ret R P pc (some (.int x) :: t) st M := A_iinc hd rfl hv hn (fun x h0 _ => absurd rfl h0) k
theorem A_lstore0 {a0 b : Option Value} {t : List (Option Value)} {x : Int64} (hd : di cc pc (.lstore 0) 2 n) (hn : 0 + 1 < nL) (k : AT l g own cc nL ret R P n (some (.long x) :: none :: t) st M) : AT l g own cc nL ret R P pc (a0 :: b :: t) (.long x :: st) M := A_lstore hd hn (fun x h0 _ => absurd rfl h0) k
theorem A_lstoren0 {a0 b : Option Value} {t : List (Option Value)} {x : Int64} (hd : di cc pc (.lstore_n 0) 1 n) (hn : 0 + 1 < nL) (k : AT l g own cc nL ret R P n (some (.long x) :: none :: t) st M) : AT l g own cc nL ret R P pc (a0 :: b :: t) (.long x :: st) M := A_lstore_n hd hn (fun x h0 _ => absurd rfl h0) k
theorem A_istore1 {a0 a1 : Option Value} {t : List (Option Value)} {x : Int32} (hd : di cc pc (.istore 1) 2 n) (hn : 1 < nL) (hp : okp a0 = true) (k : AT l g own cc nL ret R P n (a0 :: some (.int x) :: t) st M) : AT l g own cc nL ret R P pc (a0 :: a1 :: t) (.int x :: st) M := A_istore hd hn (fun x _ h => (Option.some.inj h : a0 = x) ▸ hp) k
theorem A_istoren1 {a0 a1 : Option Value} {t : List (Option Value)} {x : Int32} (hd : di cc pc (.istore_n 1) 1 n) (hn : 1 < nL) (hp : okp a0 = true) (k : AT l g own cc nL ret R P n (a0 :: some (.int x) :: t) st M) : AT l g own cc nL ret R P pc (a0 :: a1 :: t) (.int x :: st) M := A_istore_n hd hn (fun x _ h => (Option.some.inj h : a0 = x) ▸ hp) k
theorem A_astoren1 {a0 a1 : Option Value} {t : List (Option Value)} {x : Nat} (hd : di cc pc (.astore_n 1) 1 n) (hn : 1 < nL) (hp : okp a0 = true) (k : AT l g own cc nL ret R P n (a0 :: some (.ref x) :: t) st M) : AT l g own cc nL ret R P pc (a0 :: a1 :: t) (.ref x :: st) M := A_astore_n hd hn (fun x _ h => (Option.some.inj h : a0 = x) ▸ hp) k
theorem A_iinc1 {a0 : Option Value} {t : List (Option Value)} {z : Int} {x d : Int32} (hd : di cc pc (.iinc 1 z) 3 n) (hv : Int32.ofInt z = d) (hn : 1 < nL) (hp : okp a0 = true) (k : AT l g own cc nL ret R P n (a0 :: some (.int (x + d)) :: t) st M) : AT l g own cc nL ret R P pc (a0 :: some (.int x) :: t) st M := A_iinc hd rfl hv hn (fun x _ h => (Option.some.inj h : a0 = x) ▸ hp) k
theorem A_lstore1 {a0 a1 b : Option Value} {t : List (Option Value)} {x : Int64} (hd : di cc pc (.lstore 1) 2 n) (hn : 1 + 1 < nL) (hp : okp a0 = true) (k : AT l g own cc nL ret R P n (a0 :: some (.long x) :: none :: t) st M) : AT l g own cc nL ret R P pc (a0 :: a1 :: b :: t) (.long x :: st) M := A_lstore hd hn (fun x _ h => (Option.some.inj h : a0 = x) ▸ hp) k
theorem A_lstoren1 {a0 a1 b : Option Value} {t : List (Option Value)} {x : Int64} (hd : di cc pc (.lstore_n 1) 1 n) (hn : 1 + 1 < nL) (hp : okp a0 = true) (k : AT l g own cc nL ret R P n (a0 :: some (.long x) :: none :: t) st M) : AT l g own cc nL ret R P pc (a0 :: a1 :: b :: t) (.long x :: st) M := A_lstore_n hd hn (fun x _ h => (Option.some.inj h : a0 = x) ▸ hp) k
theorem A_istore2 {a0 a1 a2 : Option Value} {t : List (Option Value)} {x : Int32} (hd : di cc pc (.istore 2) 2 n) (hn : 2 < nL) (hp : okp a1 = true) (k : AT l g own cc nL ret R P n (a0 :: a1 :: some (.int x) :: t) st M) : AT l g own cc nL ret R P pc (a0 :: a1 :: a2 :: t) (.int x :: st) M := A_istore hd hn (fun x _ h => (Option.some.inj h : a1 = x) ▸ hp) k
theorem A_istoren2 {a0 a1 a2 : Option Value} {t : List (Option Value)} {x : Int32} (hd : di cc pc (.istore_n 2) 1 n) (hn : 2 < nL) (hp : okp a1 = true) (k : AT l g own cc nL ret R P n (a0 :: a1 :: some (.int x) :: t) st M) : AT l g own cc nL ret R P pc (a0 :: a1 :: a2 :: t) (.int x :: st) M := A_istore_n hd hn (fun x _ h => (Option.some.inj h : a1 = x) ▸ hp) k
theorem A_astoren2 {a0 a1 a2 : Option Value} {t : List (Option Value)} {x : Nat} (hd : di cc pc (.astore_n 2) 1 n) (hn : 2 < nL) (hp : okp a1 = true) (k : AT l g own cc nL ret R P n (a0 :: a1 :: some (.ref x) :: t) st M) : AT l g own cc nL ret R P pc (a0 :: a1 :: a2 :: t) (.ref x :: st) M := A_astore_n hd hn (fun x _ h => (Option.some.inj h : a1 = x) ▸ hp) k
theorem A_iinc2 {a0 a1 : Option Value} {t : List (Option Value)} {z : Int} {x d : Int32} (hd : di cc pc (.iinc 2 z) 3 n) (hv : Int32.ofInt z = d) (hn : 2 < nL) (hp : okp a1 = true) (k : AT l g own cc nL ret R P n (a0 :: a1 :: some (.int (x + d)) :: t) st M) : AT l g own cc nL ret R P pc (a0 :: a1 :: some (.int x) :: t) st M := A_iinc hd rfl hv hn (fun x _ h => (Option.some.inj h : a1 = x) ▸ hp) k
theorem A_lstore2 {a0 a1 a2 b : Option Value} {t : List (Option Value)} {x : Int64} (hd : di cc pc (.lstore 2) 2 n) (hn : 2 + 1 < nL) (hp : okp a1 = true) (k : AT l g own cc nL ret R P n (a0 :: a1 :: some (.long x) :: none :: t) st M) : AT l g own cc nL ret R P pc (a0 :: a1 :: a2 :: b :: t) (.long x :: st) M := A_lstore hd hn (fun x _ h => (Option.some.inj h : a1 = x) ▸ hp) k
theorem A_lstoren2 {a0 a1 a2 b : Option Value} {t : List (Option Value)} {x : Int64} (hd : di cc pc (.lstore_n 2) 1 n) (hn : 2 + 1 < nL) (hp : okp a1 = true) (k : AT l g own cc nL ret R P n (a0 :: a1 :: some (.long x) :: none :: t) st M) : AT l g own cc nL ret R P pc (a0 :: a1 :: a2 :: b :: t) (.long x :: st) M := A_lstore_n hd hn (fun x _ h => (Option.some.inj h : a1 = x) ▸ hp) k
theorem A_istore3 {a0 a1 a2 a3 : Option Value} {t : List (Option Value)} {x : Int32} (hd : di cc pc (.istore 3) 2 n) (hn : 3 < nL) (hp : okp a2 = true) (k : AT l g own cc nL ret R P n (a0 :: a1 :: a2 :: some (.int x) :: t) st M) : AT l g own cc nL ret R P pc (a0 :: a1 :: a2 :: a3 :: t) (.int x :: st) M := A_istore hd hn (fun x _ h => (Option.some.inj h : a2 = x) ▸ hp) k
theorem A_istoren3 {a0 a1 a2 a3 : Option Value} {t : List (Option Value)} {x : Int32} (hd : di cc pc (.istore_n 3) 1 n) (hn : 3 < nL) (hp : okp a2 = true) (k : AT l g own cc nL ret R P n (a0 :: a1 :: a2 :: some (.int x) :: t) st M) : AT l g own cc nL ret R P pc (a0 :: a1 :: a2 :: a3 :: t) (.int x :: st) M := A_istore_n hd hn (fun x _ h => (Option.some.inj h : a2 = x) ▸ hp) k
theorem A_astoren3 {a0 a1 a2 a3 : Option Value} {t : List (Option Value)} {x : Nat} (hd : di cc pc (.astore_n 3) 1 n) (hn : 3 < nL) (hp : okp a2 = true) (k : AT l g own cc nL ret R P n (a0 :: a1 :: a2 :: some (.ref x) :: t) st M) : AT l g own cc nL ret R P pc (a0 :: a1 :: a2 :: a3 :: t) (.ref x :: st) M := A_astore_n hd hn (fun x _ h => (Option.some.inj h : a2 = x) ▸ hp) k
theorem A_iinc3 {a0 a1 a2 : Option Value} {t : List (Option Value)} {z : Int} {x d : Int32} (hd : di cc pc (.iinc 3 z) 3 n) (hv : Int32.ofInt z = d) (hn : 3 < nL) (hp : okp a2 = true) (k : AT l g own cc nL ret R P n (a0 :: a1 :: a2 :: some (.int (x + d)) :: t) st M) : AT l g own cc nL ret R P pc (a0 :: a1 :: a2 :: some (.int x) :: t) st M := A_iinc hd rfl hv hn (fun x _ h => (Option.some.inj h : a2 = x) ▸ hp) k
theorem A_lstore3 {a0 a1 a2 a3 b : Option Value} {t : List (Option Value)} {x : Int64} (hd : di cc pc (.lstore 3) 2 n) (hn : 3 + 1 < nL) (hp : okp a2 = true) (k : AT l g own cc nL ret R P n (a0 :: a1 :: a2 :: some (.long x) :: none :: t) st M) : AT l g own cc nL ret R P pc (a0 :: a1 :: a2 :: a3 :: b :: t) (.long x :: st) M := A_lstore hd hn (fun x _ h => (Option.some.inj h : a2 = x) ▸ hp) k
theorem A_lstoren3 {a0 a1 a2 a3 b : Option Value} {t : List (Option Value)} {x : Int64} (hd : di cc pc (.lstore_n 3) 1 n) (hn : 3 + 1 < nL) (hp : okp a2 = true) (k : AT l g own cc nL ret R P n (a0 :: a1 :: a2 :: some (.long x) :: none :: t) st M) : AT l g own cc nL ret R P pc (a0 :: a1 :: a2 :: a3 :: b :: t) (.long x :: st) M := A_lstore_n hd hn (fun x _ h => (Option.some.inj h : a2 = x) ▸ hp) k
theorem A_istore4 {a0 a1 a2 a3 a4 : Option Value} {t : List (Option Value)} {x : Int32} (hd : di cc pc (.istore 4) 2 n) (hn : 4 < nL) (hp : okp a3 = true) (k : AT l g own cc nL ret R P n (a0 :: a1 :: a2 :: a3 :: some (.int x) :: t) st M) : AT l g own cc nL ret R P pc (a0 :: a1 :: a2 :: a3 :: a4 :: t) (.int x :: st) M := A_istore hd hn (fun x _ h => (Option.some.inj h : a3 = x) ▸ hp) k
theorem A_iinc4 {a0 a1 a2 a3 : Option Value} {t : List (Option Value)} {z : Int} {x d : Int32} (hd : di cc pc (.iinc 4 z) 3 n) (hv : Int32.ofInt z = d) (hn : 4 < nL) (hp : okp a3 = true) (k : AT l g own cc nL ret R P n (a0 :: a1 :: a2 :: a3 :: some (.int (x + d)) :: t) st M) : AT l g own cc nL ret R P pc (a0 :: a1 :: a2 :: a3 :: some (.int x) :: t) st M := A_iinc hd rfl hv hn (fun x _ h => (Option.some.inj h : a3 = x) ▸ hp) k
theorem A_lstore4 {a0 a1 a2 a3 a4 b : Option Value} {t : List (Option Value)} {x : Int64} (hd : di cc pc (.lstore 4) 2 n) (hn : 4 + 1 < nL) (hp : okp a3 = true) (k : AT l g own cc nL ret R P n (a0 :: a1 :: a2 :: a3 :: some (.long x) :: none :: t) st M) : AT l g own cc nL ret R P pc (a0 :: a1 :: a2 :: a3 :: a4 :: b :: t) (.long x :: st) M := A_lstore hd hn (fun x _ h => (Option.some.inj h : a3 = x) ▸ hp) k
theorem A_istore5 {a0 a1 a2 a3 a4 a5 : Option Value} {t : List (Option Value)} {x : Int32} (hd : di cc pc (.istore 5) 2 n) (hn : 5 < nL) (hp : okp a4 = true) (k : AT l g own cc nL ret R P n (a0 :: a1 :: a2 :: a3 :: a4 :: some (.int x) :: t) st M) : AT l g own cc nL ret R P pc (a0 :: a1 :: a2 :: a3 :: a4 :: a5 :: t) (.int x :: st) M := A_istore hd hn (fun x _ h => (Option.some.inj h : a4 = x) ▸ hp) k
theorem A_iinc5 {a0 a1 a2 a3 a4 : Option Value} {t : List (Option Value)} {z : Int} {x d : Int32} (hd : di cc pc (.iinc 5 z) 3 n) (hv : Int32.ofInt z = d) (hn : 5 < nL) (hp : okp a4 = true) (k : AT l g own cc nL ret R P n (a0 :: a1 :: a2 :: a3 :: a4 :: some (.int (x + d)) :: t) st M) : AT l g own cc nL ret R P pc (a0 :: a1 :: a2 :: a3 :: a4 :: some (.int x) :: t) st M := A_iinc hd rfl hv hn (fun x _ h => (Option.some.inj h : a4 = x) ▸ hp) k
theorem A_lstore5 {a0 a1 a2 a3 a4 a5 b : Option Value} {t : List (Option Value)} {x : Int64} (hd : di cc pc (.lstore 5) 2 n) (hn : 5 + 1 < nL) (hp : okp a4 = true) (k : AT l g own cc nL ret R P n (a0 :: a1 :: a2 :: a3 :: a4 :: some (.long x) :: none :: t) st M) : AT l g own cc nL ret R P pc (a0 :: a1 :: a2 :: a3 :: a4 :: a5 :: b :: t) (.long x :: st) M := A_lstore hd hn (fun x _ h => (Option.some.inj h : a4 = x) ▸ hp) k
theorem A_istore6 {a0 a1 a2 a3 a4 a5 a6 : Option Value} {t : List (Option Value)} {x : Int32} (hd : di cc pc (.istore 6) 2 n) (hn : 6 < nL) (hp : okp a5 = true) (k : AT l g own cc nL ret R P n (a0 :: a1 :: a2 :: a3 :: a4 :: a5 :: some (.int x) :: t) st M) : AT l g own cc nL ret R P pc (a0 :: a1 :: a2 :: a3 :: a4 :: a5 :: a6 :: t) (.int x :: st) M := A_istore hd hn (fun x _ h => (Option.some.inj h : a5 = x) ▸ hp) k
theorem A_iinc6 {a0 a1 a2 a3 a4 a5 : Option Value} {t : List (Option Value)} {z : Int} {x d : Int32} (hd : di cc pc (.iinc 6 z) 3 n) (hv : Int32.ofInt z = d) (hn : 6 < nL) (hp : okp a5 = true) (k : AT l g own cc nL ret R P n (a0 :: a1 :: a2 :: a3 :: a4 :: a5 :: some (.int (x + d)) :: t) st M) : AT l g own cc nL ret R P pc (a0 :: a1 :: a2 :: a3 :: a4 :: a5 :: some (.int x) :: t) st M := A_iinc hd rfl hv hn (fun x _ h => (Option.some.inj h : a5 = x) ▸ hp) k
theorem A_lstore6 {a0 a1 a2 a3 a4 a5 a6 b : Option Value} {t : List (Option Value)} {x : Int64} (hd : di cc pc (.lstore 6) 2 n) (hn : 6 + 1 < nL) (hp : okp a5 = true) (k : AT l g own cc nL ret R P n (a0 :: a1 :: a2 :: a3 :: a4 :: a5 :: some (.long x) :: none :: t) st M) : AT l g own cc nL ret R P pc (a0 :: a1 :: a2 :: a3 :: a4 :: a5 :: a6 :: b :: t) (.long x :: st) M := A_lstore hd hn (fun x _ h => (Option.some.inj h : a5 = x) ▸ hp) k
theorem A_istore7 {a0 a1 a2 a3 a4 a5 a6 a7 : Option Value} {t : List (Option Value)} {x : Int32} (hd : di cc pc (.istore 7) 2 n) (hn : 7 < nL) (hp : okp a6 = true) (k : AT l g own cc nL ret R P n (a0 :: a1 :: a2 :: a3 :: a4 :: a5 :: a6 :: some (.int x) :: t) st M) : AT l g own cc nL ret R P pc (a0 :: a1 :: a2 :: a3 :: a4 :: a5 :: a6 :: a7 :: t) (.int x :: st) M := A_istore hd hn (fun x _ h => (Option.some.inj h : a6 = x) ▸ hp) k
theorem A_iinc7 {a0 a1 a2 a3 a4 a5 a6 : Option Value} {t : List (Option Value)} {z : Int} {x d : Int32} (hd : di cc pc (.iinc 7 z) 3 n) (hv : Int32.ofInt z = d) (hn : 7 < nL) (hp : okp a6 = true) (k : AT l g own cc nL ret R P n (a0 :: a1 :: a2 :: a3 :: a4 :: a5 :: a6 :: some (.int (x + d)) :: t) st M) : AT l g own cc nL ret R P pc (a0 :: a1 :: a2 :: a3 :: a4 :: a5 :: a6 :: some (.int x) :: t) st M := A_iinc hd rfl hv hn (fun x _ h => (Option.some.inj h : a6 = x) ▸ hp) k
theorem A_lstore7 {a0 a1 a2 a3 a4 a5 a6 a7 b : Option Value} {t : List (Option Value)} {x : Int64} (hd : di cc pc (.lstore 7) 2 n) (hn : 7 + 1 < nL) (hp : okp a6 = true) (k : AT l g own cc nL ret R P n (a0 :: a1 :: a2 :: a3 :: a4 :: a5 :: a6 :: some (.long x) :: none :: t) st M) : AT l g own cc nL ret R P pc (a0 :: a1 :: a2 :: a3 :: a4 :: a5 :: a6 :: a7 :: b :: t) (.long x :: st) M := A_lstore hd hn (fun x _ h => (Option.some.inj h : a6 = x) ▸ hp) k
theorem A_istore8 {a0 a1 a2 a3 a4 a5 a6 a7 a8 : Option Value} {t : List (Option Value)} {x : Int32} (hd : di cc pc (.istore 8) 2 n) (hn : 8 < nL) (hp : okp a7 = true) (k : AT l g own cc nL ret R P n (a0 :: a1 :: a2 :: a3 :: a4 :: a5 :: a6 :: a7 :: some (.int x) :: t) st M) : AT l g own cc nL ret R P pc (a0 :: a1 :: a2 :: a3 :: a4 :: a5 :: a6 :: a7 :: a8 :: t) (.int x :: st) M := A_istore hd hn (fun x _ h => (Option.some.inj h : a7 = x) ▸ hp) k
theorem A_iinc8 {a0 a1 a2 a3 a4 a5 a6 a7 : Option Value} {t : List (Option Value)} {z : Int} {x d : Int32} (hd : di cc pc (.iinc 8 z) 3 n) (hv : Int32.ofInt z = d) (hn : 8 < nL) (hp : okp a7 = true) (k : AT l g own cc nL ret R P n (a0 :: a1 :: a2 :: a3 :: a4 :: a5 :: a6 :: a7 :: some (.int (x + d)) :: t) st M) : AT l g own cc nL ret R P pc (a0 :: a1 :: a2 :: a3 :: a4 :: a5 :: a6 :: a7 :: some (.int x) :: t) st M := A_iinc hd rfl hv hn (fun x _ h => (Option.some.inj h : a7 = x) ▸ hp) k
theorem A_lstore8 {a0 a1 a2 a3 a4 a5 a6 a7 a8 b : Option Value} {t : List (Option Value)} {x : Int64} (hd : di cc pc (.lstore 8) 2 n) (hn : 8 + 1 < nL) (hp : okp a7 = true) (k : AT l g own cc nL ret R P n (a0 :: a1 :: a2 :: a3 :: a4 :: a5 :: a6 :: a7 :: some (.long x) :: none :: t) st M) : AT l g own cc nL ret R P pc (a0 :: a1 :: a2 :: a3 :: a4 :: a5 :: a6 :: a7 :: a8 :: b :: t) (.long x :: st) M := A_lstore hd hn (fun x _ h => (Option.some.inj h : a7 = x) ▸ hp) k
theorem A_istore9 {a0 a1 a2 a3 a4 a5 a6 a7 a8 a9 : Option Value} {t : List (Option Value)} {x : Int32} (hd : di cc pc (.istore 9) 2 n) (hn : 9 < nL) (hp : okp a8 = true) (k : AT l g own cc nL ret R P n (a0 :: a1 :: a2 :: a3 :: a4 :: a5 :: a6 :: a7 :: a8 :: some (.int x) :: t) st M) : AT l g own cc nL ret R P pc (a0 :: a1 :: a2 :: a3 :: a4 :: a5 :: a6 :: a7 :: a8 :: a9 :: t) (.int x :: st) M := A_istore hd hn (fun x _ h => (Option.some.inj h : a8 = x) ▸ hp) k
theorem A_iinc9 {a0 a1 a2 a3 a4 a5 a6 a7 a8 : Option Value} {t : List (Option Value)} {z : Int} {x d : Int32} (hd : di cc pc (.iinc 9 z) 3 n) (hv : Int32.ofInt z = d) (hn : 9 < nL) (hp : okp a8 = true) (k : AT l g own cc nL ret R P n (a0 :: a1 :: a2 :: a3 :: a4 :: a5 :: a6 :: a7 :: a8 :: some (.int (x + d)) :: t) st M) : AT l g own cc nL ret R P pc (a0 :: a1 :: a2 :: a3 :: a4 :: a5 :: a6 :: a7 :: a8 :: some (.int x) :: t) st M := A_iinc hd rfl hv hn (fun x _ h => (Option.some.inj h : a8 = x) ▸ hp) k
theorem A_lstore9 {a0 a1 a2 a3 a4 a5 a6 a7 a8 a9 b : Option Value} {t : List (Option Value)} {x : Int64} (hd : di cc pc (.lstore 9) 2 n) (hn : 9 + 1 < nL) (hp : okp a8 = true) (k : AT l g own cc nL ret R P n (a0 :: a1 :: a2 :: a3 :: a4 :: a5 :: a6 :: a7 :: a8 :: some (.long x) :: none :: t) st M) : AT l g own cc nL ret R P pc (a0 :: a1 :: a2 :: a3 :: a4 :: a5 :: a6 :: a7 :: a8 :: a9 :: b :: t) (.long x :: st) M := A_lstore hd hn (fun x _ h => (Option.some.inj h : a8 = x) ▸ hp) k
theorem A_istore10 {a0 a1 a2 a3 a4 a5 a6 a7 a8 a9 a10 : Option Value} {t : List (Option Value)} {x : Int32} (hd : di cc pc (.istore 10) 2 n) (hn : 10 < nL) (hp : okp a9 = true) (k : AT l g own cc nL ret R P n (a0 :: a1 :: a2 :: a3 :: a4 :: a5 :: a6 :: a7 :: a8 :: a9 :: some (.int x) :: t) st M) : AT l g own cc nL ret R P pc (a0 :: a1 :: a2 :: a3 :: a4 :: a5 :: a6 :: a7 :: a8 :: a9 :: a10 :: t) (.int x :: st) M := A_istore hd hn (fun x _ h => (Option.some.inj h : a9 = x) ▸ hp) k
theorem A_iinc10 {a0 a1 a2 a3 a4 a5 a6 a7 a8 a9 : Option Value} {t : List (Option Value)} {z : Int} {x d : Int32} (hd : di cc pc (.iinc 10 z) 3 n) (hv : Int32.ofInt z = d) (hn : 10 < nL) (hp : okp a9 = true) (k : AT l g own cc nL ret R P n (a0 :: a1 :: a2 :: a3 :: a4 :: a5 :: a6 :: a7 :: a8 :: a9 :: some (.int (x + d)) :: t) st M) : AT l g own cc nL ret R P pc (a0 :: a1 :: a2 :: a3 :: a4 :: a5 :: a6 :: a7 :: a8 :: a9 :: some (.int x) :: t) st M := A_iinc hd rfl hv hn (fun x _ h => (Option.some.inj h : a9 = x) ▸ hp) k
theorem A_lstore10 {a0 a1 a2 a3 a4 a5 a6 a7 a8 a9 a10 b : Option Value} {t : List (Option Value)} {x : Int64} (hd : di cc pc (.lstore 10) 2 n) (hn : 10 + 1 < nL) (hp : okp a9 = true) (k : AT l g own cc nL ret R P n (a0 :: a1 :: a2 :: a3 :: a4 :: a5 :: a6 :: a7 :: a8 :: a9 :: some (.long x) :: none :: t) st M) : AT l g own cc nL ret R P pc (a0 :: a1 :: a2 :: a3 :: a4 :: a5 :: a6 :: a7 :: a8 :: a9 :: a10 :: b :: t) (.long x :: st) M := A_lstore hd hn (fun x _ h => (Option.some.inj h : a9 = x) ▸ hp) k
theorem A_istore11 {a0 a1 a2 a3 a4 a5 a6 a7 a8 a9 a10 a11 : Option Value} {t : List (Option Value)} {x : Int32} (hd : di cc pc (.istore 11) 2 n) (hn : 11 < nL) (hp : okp a10 = true) (k : AT l g own cc nL ret R P n (a0 :: a1 :: a2 :: a3 :: a4 :: a5 :: a6 :: a7 :: a8 :: a9 :: a10 :: some (.int x) :: t) st M) : AT l g own cc nL ret R P pc (a0 :: a1 :: a2 :: a3 :: a4 :: a5 :: a6 :: a7 :: a8 :: a9 :: a10 :: a11 :: t) (.int x :: st) M := A_istore hd hn (fun x _ h => (Option.some.inj h : a10 = x) ▸ hp) k
theorem A_iinc11 {a0 a1 a2 a3 a4 a5 a6 a7 a8 a9 a10 : Option Value} {t : List (Option Value)} {z : Int} {x d : Int32} (hd : di cc pc (.iinc 11 z) 3 n) (hv : Int32.ofInt z = d) (hn : 11 < nL) (hp : okp a10 = true) (k : AT l g own cc nL ret R P n (a0 :: a1 :: a2 :: a3 :: a4 :: a5 :: a6 :: a7 :: a8 :: a9 :: a10 :: some (.int (x + d)) :: t) st M) : AT l g own cc nL ret R P pc (a0 :: a1 :: a2 :: a3 :: a4 :: a5 :: a6 :: a7 :: a8 :: a9 :: a10 :: some (.int x) :: t) st M := A_iinc hd rfl hv hn (fun x _ h => (Option.some.inj h : a10 = x) ▸ hp) k
theorem A_lstore11 {a0 a1 a2 a3 a4 a5 a6 a7 a8 a9 a10 a11 b : Option Value} {t : List (Option Value)} {x : Int64} (hd : di cc pc (.lstore 11) 2 n) (hn : 11 + 1 < nL) (hp : okp a10 = true) (k : AT l g own cc nL ret R P n (a0 :: a1 :: a2 :: a3 :: a4 :: a5 :: a6 :: a7 :: a8 :: a9 :: a10 :: some (.long x) :: none :: t) st M) : AT l g own cc nL ret R P pc (a0 :: a1 :: a2 :: a3 :: a4 :: a5 :: a6 :: a7 :: a8 :: a9 :: a10 :: a11 :: b :: t) (.long x :: st) M := A_lstore hd hn (fun x _ h => (Option.some.inj h : a10 = x) ▸ hp) k
theorem A_istore12 {a0 a1 a2 a3 a4 a5 a6 a7 a8 a9 a10 a11 a12 : Option Value} {t : List (Option Value)} {x : Int32} (hd : di cc pc (.istore 12) 2 n) (hn : 12 < nL) (hp : okp a11 = true) (k : AT l g own cc nL ret R P n (a0 :: a1 :: a2 :: a3 :: a4 :: a5 :: a6 :: a7 :: a8 :: a9 :: a10 :: a11 :: some (.int x) :: t) st M) : AT l g own cc nL ret R P pc (a0 :: a1 :: a2 :: a3 :: a4 :: a5 :: a6 :: a7 :: a8 :: a9 :: a10 :: a11 :: a12 :: t) (.int x :: st) M := A_istore hd hn (fun x _ h => (Option.some.inj h : a11 = x) ▸ hp) k
theorem A_iinc12 {a0 a1 a2 a3 a4 a5 a6 a7 a8 a9 a10 a11 : Option Value} {t : List (Option Value)} {z : Int} {x d : Int32} (hd : di cc pc (.iinc 12 z) 3 n) (hv : Int32.ofInt z = d) (hn : 12 < nL) (hp : okp a11 = true) (k : AT l g own cc nL ret R P n (a0 :: a1 :: a2 :: a3 :: a4 :: a5 :: a6 :: a7 :: a8 :: a9 :: a10 :: a11 :: some (.int (x + d)) :: t) st M) : AT l g own cc nL ret R P pc (a0 :: a1 :: a2 :: a3 :: a4 :: a5 :: a6 :: a7 :: a8 :: a9 :: a10 :: a11 :: some (.int x) :: t) st M := A_iinc hd rfl hv hn (fun x _ h => (Option.some.inj h : a11 = x) ▸ hp) k
theorem A_lstore12 {a0 a1 a2 a3 a4 a5 a6 a7 a8 a9 a10 a11 a12 b : Option Value} {t : List (Option Value)} {x : Int64} (hd : di cc pc (.lstore 12) 2 n) (hn : 12 + 1 < nL) (hp : okp a11 = true) (k : AT l g own cc nL ret R P n (a0 :: a1 :: a2 :: a3 :: a4 :: a5 :: a6 :: a7 :: a8 :: a9 :: a10 :: a11 :: some (.long x) :: none :: t) st M) : AT l g own cc nL ret R P pc (a0 :: a1 :: a2 :: a3 :: a4 :: a5 :: a6 :: a7 :: a8 :: a9 :: a10 :: a11 :: a12 :: b :: t) (.long x :: st) M := A_lstore hd hn (fun x _ h => (Option.some.inj h : a11 = x) ▸ hp) k
theorem A_istore13 {a0 a1 a2 a3 a4 a5 a6 a7 a8 a9 a10 a11 a12 a13 : Option Value} {t : List (Option Value)} {x : Int32} (hd : di cc pc (.istore 13) 2 n) (hn : 13 < nL) (hp : okp a12 = true) (k : AT l g own cc nL ret R P n (a0 :: a1 :: a2 :: a3 :: a4 :: a5 :: a6 :: a7 :: a8 :: a9 :: a10 :: a11 :: a12 :: some (.int x) :: t) st M) : AT l g own cc nL ret R P pc (a0 :: a1 :: a2 :: a3 :: a4 :: a5 :: a6 :: a7 :: a8 :: a9 :: a10 :: a11 :: a12 :: a13 :: t) (.int x :: st) M := A_istore hd hn (fun x _ h => (Option.some.inj h : a12 = x) ▸ hp) k
theorem A_iinc13 {a0 a1 a2 a3 a4 a5 a6 a7 a8 a9 a10 a11 a12 : Option Value} {t : List (Option Value)} {z : Int} {x d : Int32} (hd : di cc pc (.iinc 13 z) 3 n) (hv : Int32.ofInt z = d) (hn : 13 < nL) (hp : okp a12 = true) (k : AT l g own cc nL ret R P n (a0 :: a1 :: a2 :: a3 :: a4 :: a5 :: a6 :: a7 :: a8 :: a9 :: a10 :: a11 :: a12 :: some (.int (x + d)) :: t) st M) : AT l g own cc nL ret R P pc (a0 :: a1 :: a2 :: a3 :: a4 :: a5 :: a6 :: a7 :: a8 :: a9 :: a10 :: a11 :: a12 :: some (.int x) :: t) st M := A_iinc hd rfl hv hn (fun x _ h => (Option.some.inj h : a12 = x) ▸ hp) k
theorem A_lstore13 {a0 a1 a2 a3 a4 a5 a6 a7 a8 a9 a10 a11 a12 a13 b : Option Value} {t : List (Option Value)} {x : Int64} (hd : di cc pc (.lstore 13) 2 n) (hn : 13 + 1 < nL) (hp : okp a12 = true) (k : AT l g own cc nL ret R P n (a0 :: a1 :: a2 :: a3 :: a4 :: a5 :: a6 :: a7 :: a8 :: a9 :: a10 :: a11 :: a12 :: some (.long x) :: none :: t) st M) : AT l g own cc nL ret R P pc (a0 :: a1 :: a2 :: a3 :: a4 :: a5 :: a6 :: a7 :: a8 :: a9 :: a10 :: a11 :: a12 :: a13 :: b :: t) (.long x :: st) M := A_lstore hd hn (fun x _ h => (Option.some.inj h : a12 = x) ▸ hp) k
theorem A_istore14 {a0 a1 a2 a3 a4 a5 a6 a7 a8 a9 a10 a11 a12 a13 a14 : Option Value} {t : List (Option Value)} {x : Int32} (hd : di cc pc (.istore 14) 2 n) (hn : 14 < nL) (hp : okp a13 = true) (k : AT l g own cc nL ret R P n (a0 :: a1 :: a2 :: a3 :: a4 :: a5 :: a6 :: a7 :: a8 :: a9 :: a10 :: a11 :: a12 :: a13 :: some (.int x) :: t) st M) : AT l g own cc nL ret R P pc (a0 :: a1 :: a2 :: a3 :: a4 :: a5 :: a6 :: a7 :: a8 :: a9 :: a10 :: a11 :: a12 :: a13 :: a14 :: t) (.int x :: st) M := A_istore hd hn (fun x _ h => (Option.some.inj h : a13 = x) ▸ hp) k
theorem A_iinc14 {a0 a1 a2 a3 a4 a5 a6 a7 a8 a9 a10 a11 a12 a13 : Option Value} {t : List (Option Value)} {z : Int} {x d : Int32} (hd : di cc pc (.iinc 14 z) 3 n) (hv : Int32.ofInt z = d) (hn : 14 < nL) (hp : okp a13 = true) (k : AT l g own cc nL ret R P n (a0 :: a1 :: a2 :: a3 :: a4 :: a5 :: a6 :: a7 :: a8 :: a9 :: a10 :: a11 :: a12 :: a13 :: some (.int (x + d)) :: t) st M) : AT l g own cc nL ret R P pc (a0 :: a1 :: a2 :: a3 :: a4 :: a5 :: a6 :: a7 :: a8 :: a9 :: a10 :: a11 :: a12 :: a13 :: some (.int x) :: t) st M := A_iinc hd rfl hv hn (fun x _ h => (Option.some.inj h : a13 = x) ▸ hp) k
theorem A_lstore14 {a0 a1 a2 a3 a4 a5 a6 a7 a8 a9 a10 a11 a12 a13 a14 b : Option Value} {t : List (Option Value)} {x : Int64} (hd : di cc pc (.lstore 14) 2 n) (hn : 14 + 1 < nL) (hp : okp a13 = true) (k : AT l g own cc nL ret R P n (a0 :: a1 :: a2 :: a3 :: a4 :: a5 :: a6 :: a7 :: a8 :: a9 :: a10 :: a11 :: a12 :: a13 :: some (.long x) :: none :: t) st M) : AT l g own cc nL ret R P pc (a0 :: a1 :: a2 :: a3 :: a4 :: a5 :: a6 :: a7 :: a8 :: a9 :: a10 :: a11 :: a12 :: a13 :: a14 :: b :: t) (.long x :: st) M := A_lstore hd hn (fun x _ h => (Option.some.inj h : a13 = x) ▸ hp) k
theorem A_istore15 {a0 a1 a2 a3 a4 a5 a6 a7 a8 a9 a10 a11 a12 a13 a14 a15 : Option Value} {t : List (Option Value)} {x : Int32} (hd : di cc pc (.istore 15) 2 n) (hn : 15 < nL) (hp : okp a14 = true) (k : AT l g own cc nL ret R P n (a0 :: a1 :: a2 :: a3 :: a4 :: a5 :: a6 :: a7 :: a8 :: a9 :: a10 :: a11 :: a12 :: a13 :: a14 :: some (.int x) :: t) st M) : AT l g own cc nL ret R P pc (a0 :: a1 :: a2 :: a3 :: a4 :: a5 :: a6 :: a7 :: a8 :: a9 :: a10 :: a11 :: a12 :: a13 :: a14 :: a15 :: t) (.int x :: st) M := A_istore hd hn (fun x _ h => (Option.some.inj h : a14 = x) ▸ hp) k
theorem A_iinc15 {a0 a1 a2 a3 a4 a5 a6 a7 a8 a9 a10 a11 a12 a13 a14 : Option Value} {t : List (Option Value)} {z : Int} {x d : Int32} (hd : di cc pc (.iinc 15 z) 3 n) (hv : Int32.ofInt z = d) (hn : 15 < nL) (hp : okp a14 = true) (k : AT l g own cc nL ret R P n (a0 :: a1 :: a2 :: a3 :: a4 :: a5 :: a6 :: a7 :: a8 :: a9 :: a10 :: a11 :: a12 :: a13 :: a14 :: some (.int (x + d)) :: t) st M) : AT l g own cc nL ret R P pc (a0 :: a1 :: a2 :: a3 :: a4 :: a5 :: a6 :: a7 :: a8 :: a9 :: a10 :: a11 :: a12 :: a13 :: a14 :: some (.int x) :: t) st M := A_iinc hd rfl hv hn (fun x _ h => (Option.some.inj h : a14 = x) ▸ hp) k
theorem A_lstore15 {a0 a1 a2 a3 a4 a5 a6 a7 a8 a9 a10 a11 a12 a13 a14 a15 b : Option Value} {t : List (Option Value)} {x : Int64} (hd : di cc pc (.lstore 15) 2 n) (hn : 15 + 1 < nL) (hp : okp a14 = true) (k : AT l g own cc nL ret R P n (a0 :: a1 :: a2 :: a3 :: a4 :: a5 :: a6 :: a7 :: a8 :: a9 :: a10 :: a11 :: a12 :: a13 :: a14 :: some (.long x) :: none :: t) st M) : AT l g own cc nL ret R P pc (a0 :: a1 :: a2 :: a3 :: a4 :: a5 :: a6 :: a7 :: a8 :: a9 :: a10 :: a11 :: a12 :: a13 :: a14 :: a15 :: b :: t) (.long x :: st) M := A_lstore hd hn (fun x _ h => (Option.some.inj h : a14 = x) ▸ hp) k
end STO
