/-! Math's three -/
section MTH
variable {l : Launch} {g : Cx} {own : String} {cc : ByteArray} {nL : Nat} {ret : Option FieldType} {R : Room} {P : Option Value → Mem → Prop} {pc n : Nat} {lv : List (Option Value)} {rest : List Value} {M : Mem}
theorem mk_max : Cond.code Lib.Math.max.name Lib.Math.max.code 2 (some .int) ∈ gd := gd_t 449 (by decide +kernel)
theorem mt_max : Cond.static Lib.Math.max.name ∈ gd := gd_t 448 (by decide +kernel)
theorem mk_min : Cond.code Lib.Math.min.name Lib.Math.min.code 2 (some .int) ∈ gd := gd_t 799 (by decide +kernel)
theorem mt_min : Cond.static Lib.Math.min.name ∈ gd := gd_t 798 (by decide +kernel)
theorem mk_abs : Cond.code Lib.Math.abs.name Lib.Math.abs.code 1 (some .int) ∈ gd := gd_t 477 (by decide +kernel)
theorem mt_abs : Cond.static Lib.Math.abs.name ∈ gd := gd_t 476 (by decide +kernel)
theorem mk_ini : Cond.initialized "java/lang/Math" ∈ gd := gd_t 14 (by decide +kernel)
theorem A_mmax {idx : Nat} {x y : Int32} (hd : di cc pc (.invokestatic idx) 3 n) (hl0 : Cond.methodLink own idx Lib.Math.max.name ∈ gd) (hf : 1 ≤ R.frames) (hlo : (rest.map fun v => v.category).sum + 13 ≤ R.locals) (k : AT l g own cc nL ret R P n lv (.int (if x < y then y else x) :: rest) M) : AT l g own cc nL ret R P pc lv (.int y :: .int x :: rest) M := fun p e s m args below meth c H locs ls C hP hS hl => by
  obtain ⟨hd, rfl⟩ := hd
  have hts := C.2.2.2.2.2.2.1
  exact va_mmax C.1 C.2.1 (C.2.2.2.1.trans hl.1.symm) C.2.2.2.2.1 (hts _ hl0) (hts _ mt_max) (hts _ mk_ini) (hts _ mk_max) hf hlo (Nat.zero_le _) (Nat.zero_le _) hd (k p e s m args below meth c H locs ls C hP hS hl)
theorem A_mmin {idx : Nat} {x y : Int32} (hd : di cc pc (.invokestatic idx) 3 n) (hl0 : Cond.methodLink own idx Lib.Math.min.name ∈ gd) (hf : 1 ≤ R.frames) (hlo : (rest.map fun v => v.category).sum + 13 ≤ R.locals) (k : AT l g own cc nL ret R P n lv (.int (if y < x then y else x) :: rest) M) : AT l g own cc nL ret R P pc lv (.int y :: .int x :: rest) M := fun p e s m args below meth c H locs ls C hP hS hl => by
  obtain ⟨hd, rfl⟩ := hd
  have hts := C.2.2.2.2.2.2.1
  exact va_mmin C.1 C.2.1 (C.2.2.2.1.trans hl.1.symm) C.2.2.2.2.1 (hts _ hl0) (hts _ mt_min) (hts _ mk_ini) (hts _ mk_min) hf hlo (Nat.zero_le _) (Nat.zero_le _) hd (k p e s m args below meth c H locs ls C hP hS hl)
theorem A_mabs {idx : Nat} {x : Int32} (hd : di cc pc (.invokestatic idx) 3 n) (hl0 : Cond.methodLink own idx Lib.Math.abs.name ∈ gd) (hf : 1 ≤ R.frames) (hlo : (rest.map fun v => v.category).sum + 13 ≤ R.locals) (k : AT l g own cc nL ret R P n lv (.int (if 0 ≤ x then x else 0 - x) :: rest) M) : AT l g own cc nL ret R P pc lv (.int x :: rest) M := fun p e s m args below meth c H locs ls C hP hS hl => by
  obtain ⟨hd, rfl⟩ := hd
  have hts := C.2.2.2.2.2.2.1
  exact va_mabs C.1 C.2.1 (C.2.2.2.1.trans hl.1.symm) C.2.2.2.2.1 (hts _ hl0) (hts _ mt_abs) (hts _ mk_ini) (hts _ mk_abs) hf hlo (Nat.zero_le _) (Nat.zero_le _) hd (k p e s m args below meth c H locs ls C hP hS hl)
end MTH
