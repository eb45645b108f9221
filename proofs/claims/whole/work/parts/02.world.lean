/-! THE WORLD: every cell of the object and of the reference, and a memory of ints over it -/
abbrev Mem : Type := (Nat → Nat → Int32) × (Nat → Int64)
/-- addresses of the cells; the classes' numbers and slots; the array classes; addresses of the static tables; of the texts -/
abbrev Cx : Type := (Nat → Nat) × va_G × (Nat → ClassId) × (Nat → Nat) × (Nat → Nat) × (Nat → Nat)
def up2 (M : Mem) (q j : Nat) (x : Int32) : Mem := (fun k => if k = q then upd (M.1 q) j x else M.1 k, M.2)
def upL (M : Mem) (j : Nat) (x : Int64) : Mem := (M.1, vp_updL M.2 j x)
abbrev cls : List vw_C := [(RX0, TX0, 4), (RX1, TX1, 4), (RX2, TX2, 5), (RX3, TX3, 3), (RX4, TX4, 7), (RX5, TX5, 5), (RX6, TX6, 6), (RX7, TX7, 5), (RX8, TX8, 16), (RX9, TX9, 11), (RX10, TX10, 14), (RX11, TX11, 49)]
abbrev fs0 (g : Cx) (M : Mem) : List Value := [.ref (g.1 12), .ref (g.1 1), .ref (g.1 2), .ref (g.1 3), .ref (g.1 4), .ref (g.1 5), .ref (g.1 6), .ref (g.1 7), .ref (g.1 8), .ref (g.1 9), .ref (g.1 10), .ref (g.1 13), .int (M.1 0 12), .int (M.1 0 13)]
abbrev fs1 (g : Cx) (M : Mem) : List Value := [.ref (g.1 14), .int (M.1 1 1), .int (M.1 1 2), .int (M.1 1 3)]
abbrev fs2 (g : Cx) (M : Mem) : List Value := [.ref (g.1 1), .ref (g.1 15), .ref (g.1 16), .int (M.1 2 3), .ref (g.1 17), .ref (g.1 18), .ref (g.1 19), .ref (g.1 20), .int (M.1 2 8), .ref (g.1 21), .int (M.1 2 10), .int (M.1 2 11), .int (M.1 2 12), .int (M.1 2 13), .int (M.1 2 14), .int (M.1 2 15)]
abbrev fs3 (g : Cx) (M : Mem) : List Value := [.ref (g.1 22), .ref (g.1 23), .ref (g.1 24), .ref (g.1 25), .int (M.1 3 4)]
abbrev fs4 (g : Cx) (M : Mem) : List Value := [.ref (g.1 3), .ref (g.1 2), .ref (g.1 26), .ref (g.1 27), .ref (g.1 28), .ref (g.1 29), .int (M.1 4 6)]
abbrev fs5 (g : Cx) (M : Mem) : List Value := [.ref (g.1 30), .ref (g.1 31), .ref (g.1 32), .int (M.1 5 3), .int (M.1 5 4)]
abbrev fs6 (g : Cx) (M : Mem) : List Value := [.ref (g.1 4), .ref (g.1 5), .ref (g.1 33), .ref (g.1 34), .ref (g.1 35), .ref (g.1 36), .ref (g.1 37), .ref (g.1 38), .ref (g.1 39), .ref (g.1 40), .int (M.1 6 10)]
abbrev fs7 (g : Cx) (M : Mem) : List Value := [.ref (g.1 41), .ref (g.1 42), .ref (g.1 43), .ref (g.1 44), .int (M.1 7 4)]
abbrev fs8 (g : Cx) (M : Mem) : List Value := [.ref (g.1 6), .ref (g.1 7), .ref (g.1 5)]
abbrev fs9 (g : Cx) (M : Mem) : List Value := [.ref (g.1 6), .ref (g.1 45), .ref (g.1 46), .ref (g.1 47)]
abbrev fs10 (g : Cx) (M : Mem) : List Value := [.ref (g.1 6), .ref (g.1 48), .ref (g.1 49), .ref (g.1 50), .int (M.1 10 4), .int (M.1 10 5)]
abbrev fs11 (g : Cx) (M : Mem) : List Value := [.int (M.1 11 0), .ref (g.1 66), .int (M.1 11 2), .int (M.1 11 3), .int (M.1 11 4), .ref (g.1 67), .ref (g.1 68), .int (M.1 11 7), .ref (g.1 69), .ref (g.1 70), .ref (g.1 71), .ref (g.1 72), .int (M.1 11 12), .ref (g.1 73), .ref (g.1 74), .ref (g.1 75), .ref (g.1 76), .int (M.1 11 17), .ref (g.1 77), .ref (g.1 78), .ref (g.1 79), .int (M.1 11 21), .ref (g.1 80), .ref (g.1 81), .int (M.1 11 24), .int (M.1 11 25), .ref (g.1 82), .ref (g.1 83), .ref (g.1 84), .ref (g.1 85), .ref (g.1 86), .ref (g.1 87), .ref (g.1 88), .int (M.1 11 33), .ref (g.1 89), .ref (g.1 90), .ref (g.1 91), .ref (g.1 92), .ref (g.1 93), .int (M.1 11 39), .ref (g.1 94), .ref (g.1 95), .ref (g.1 96), .ref (g.1 97), .int (M.1 11 44), .ref (g.1 98), .ref (g.1 99), .ref (g.1 100), .ref (g.1 101)]
def wl (g : Cx) (M : Mem) : va_W := [(g.1 0, .inr (10, [.ref (g.1 12), .ref (g.1 1), .ref (g.1 2), .ref (g.1 3), .ref (g.1 4), .ref (g.1 5), .ref (g.1 6), .ref (g.1 7), .ref (g.1 8), .ref (g.1 9), .ref (g.1 10), .ref (g.1 13), .int (M.1 0 12), .int (M.1 0 13)])),
  (g.1 1, .inr (1, [.ref (g.1 14), .int (M.1 1 1), .int (M.1 1 2), .int (M.1 1 3)])),
  (g.1 2, .inr (8, [.ref (g.1 1), .ref (g.1 15), .ref (g.1 16), .int (M.1 2 3), .ref (g.1 17), .ref (g.1 18), .ref (g.1 19), .ref (g.1 20), .int (M.1 2 8), .ref (g.1 21), .int (M.1 2 10), .int (M.1 2 11), .int (M.1 2 12), .int (M.1 2 13), .int (M.1 2 14), .int (M.1 2 15)])),
  (g.1 3, .inr (2, [.ref (g.1 22), .ref (g.1 23), .ref (g.1 24), .ref (g.1 25), .int (M.1 3 4)])),
  (g.1 4, .inr (4, [.ref (g.1 3), .ref (g.1 2), .ref (g.1 26), .ref (g.1 27), .ref (g.1 28), .ref (g.1 29), .int (M.1 4 6)])),
  (g.1 5, .inr (5, [.ref (g.1 30), .ref (g.1 31), .ref (g.1 32), .int (M.1 5 3), .int (M.1 5 4)])),
  (g.1 6, .inr (9, [.ref (g.1 4), .ref (g.1 5), .ref (g.1 33), .ref (g.1 34), .ref (g.1 35), .ref (g.1 36), .ref (g.1 37), .ref (g.1 38), .ref (g.1 39), .ref (g.1 40), .int (M.1 6 10)])),
  (g.1 7, .inr (7, [.ref (g.1 41), .ref (g.1 42), .ref (g.1 43), .ref (g.1 44), .int (M.1 7 4)])),
  (g.1 8, .inr (3, [.ref (g.1 6), .ref (g.1 7), .ref (g.1 5)])),
  (g.1 9, .inr (0, [.ref (g.1 6), .ref (g.1 45), .ref (g.1 46), .ref (g.1 47)])),
  (g.1 10, .inr (6, [.ref (g.1 6), .ref (g.1 48), .ref (g.1 49), .ref (g.1 50), .int (M.1 10 4), .int (M.1 10 5)])),
  (g.1 11, .inr (11, [.int (M.1 11 0), .ref (g.1 66), .int (M.1 11 2), .int (M.1 11 3), .int (M.1 11 4), .ref (g.1 67), .ref (g.1 68), .int (M.1 11 7), .ref (g.1 69), .ref (g.1 70), .ref (g.1 71), .ref (g.1 72), .int (M.1 11 12), .ref (g.1 73), .ref (g.1 74), .ref (g.1 75), .ref (g.1 76), .int (M.1 11 17), .ref (g.1 77), .ref (g.1 78), .ref (g.1 79), .int (M.1 11 21), .ref (g.1 80), .ref (g.1 81), .int (M.1 11 24), .int (M.1 11 25), .ref (g.1 82), .ref (g.1 83), .ref (g.1 84), .ref (g.1 85), .ref (g.1 86), .ref (g.1 87), .ref (g.1 88), .int (M.1 11 33), .ref (g.1 89), .ref (g.1 90), .ref (g.1 91), .ref (g.1 92), .ref (g.1 93), .int (M.1 11 39), .ref (g.1 94), .ref (g.1 95), .ref (g.1 96), .ref (g.1 97), .int (M.1 11 44), .ref (g.1 98), .ref (g.1 99), .ref (g.1 100), .ref (g.1 101)])),
  (g.1 12, .inl (g.2.2.1 0, 6, .inl (M.1 12))),
  (g.1 13, .inl (g.2.2.1 0, 8, .inl (M.1 13))),
  (g.1 14, .inl (g.2.2.1 0, 12, .inl (M.1 14))),
  (g.1 15, .inl (g.2.2.1 0, 4, .inl (M.1 15))),
  (g.1 16, .inl (g.2.2.1 0, 4, .inl (M.1 16))),
  (g.1 17, .inl (g.2.2.1 0, 60, .inl (M.1 17))),
  (g.1 18, .inl (g.2.2.1 0, 60, .inl (M.1 18))),
  (g.1 19, .inl (g.2.2.1 0, 60, .inl (M.1 19))),
  (g.1 20, .inl (g.2.2.1 0, 60, .inl (M.1 20))),
  (g.1 21, .inl (g.2.2.1 0, 60, .inl (M.1 21))),
  (g.1 22, .inl (g.2.2.1 0, 8, .inl (M.1 22))),
  (g.1 23, .inl (g.2.2.1 0, 48, .inl (M.1 23))),
  (g.1 24, .inl (g.2.2.1 0, 48, .inl (M.1 24))),
  (g.1 25, .inl (g.2.2.1 1, 48, .inl (M.1 25))),
  (g.1 26, .inl (g.2.2.1 0, 40, .inl (M.1 26))),
  (g.1 27, .inl (g.2.2.1 0, 40, .inl (M.1 27))),
  (g.1 28, .inl (g.2.2.1 0, 40, .inl (M.1 28))),
  (g.1 29, .inl (g.2.2.1 0, 240, .inl (M.1 29))),
  (g.1 30, .inl (g.2.2.1 0, 5, .inl (M.1 30))),
  (g.1 31, .inl (g.2.2.1 0, 5, .inl (M.1 31))),
  (g.1 32, .inl (g.2.2.1 0, 60, .inl (M.1 32))),
  (g.1 33, .inl (g.2.2.1 0, 100, .inl (M.1 33))),
  (g.1 34, .inl (g.2.2.1 0, 100, .inl (M.1 34))),
  (g.1 35, .inl (g.2.2.1 0, 100, .inl (M.1 35))),
  (g.1 36, .inl (g.2.2.1 0, 100, .inl (M.1 36))),
  (g.1 37, .inl (g.2.2.1 0, 100, .inl (M.1 37))),
  (g.1 38, .inl (g.2.2.1 0, 100, .inl (M.1 38))),
  (g.1 39, .inl (g.2.2.1 1, 100, .inl (M.1 39))),
  (g.1 40, .inl (g.2.2.1 0, 64, .inl (M.1 40))),
  (g.1 41, .inl (g.2.2.1 0, 60, .inl (M.1 41))),
  (g.1 42, .inl (g.2.2.1 0, 60, .inl (M.1 42))),
  (g.1 43, .inl (g.2.2.1 0, 60, .inl (M.1 43))),
  (g.1 44, .inl (g.2.2.1 0, 4, .inl (M.1 44))),
  (g.1 45, .inl (g.2.2.1 2, 64, .inr (.inl M.2))),
  (g.1 46, .inl (g.2.2.1 0, 64, .inl (M.1 46))),
  (g.1 47, .inl (g.2.2.1 0, 8, .inl (M.1 47))),
  (g.1 48, .inl (g.2.2.1 0, 14, .inl (M.1 48))),
  (g.1 49, .inl (g.2.2.1 1, 14, .inl (M.1 49))),
  (g.1 50, .inl (g.2.2.1 3, 15, .inr (.inr (.inr (.inr (fun i => if i < 15 then some (g.1 (51 + i)) else none)))))),
  (g.1 51, .inl (g.2.2.1 0, 183, .inl (M.1 51))),
  (g.1 52, .inl (g.2.2.1 0, 183, .inl (M.1 52))),
  (g.1 53, .inl (g.2.2.1 0, 183, .inl (M.1 53))),
  (g.1 54, .inl (g.2.2.1 0, 183, .inl (M.1 54))),
  (g.1 55, .inl (g.2.2.1 0, 183, .inl (M.1 55))),
  (g.1 56, .inl (g.2.2.1 0, 183, .inl (M.1 56))),
  (g.1 57, .inl (g.2.2.1 0, 183, .inl (M.1 57))),
  (g.1 58, .inl (g.2.2.1 0, 183, .inl (M.1 58))),
  (g.1 59, .inl (g.2.2.1 0, 183, .inl (M.1 59))),
  (g.1 60, .inl (g.2.2.1 0, 183, .inl (M.1 60))),
  (g.1 61, .inl (g.2.2.1 0, 183, .inl (M.1 61))),
  (g.1 62, .inl (g.2.2.1 0, 183, .inl (M.1 62))),
  (g.1 63, .inl (g.2.2.1 0, 183, .inl (M.1 63))),
  (g.1 64, .inl (g.2.2.1 0, 183, .inl (M.1 64))),
  (g.1 65, .inl (g.2.2.1 0, 183, .inl (M.1 65))),
  (g.1 66, .inl (g.2.2.1 0, 12, .inl (M.1 66))),
  (g.1 67, .inl (g.2.2.1 0, 20, .inl (M.1 67))),
  (g.1 68, .inl (g.2.2.1 0, 20, .inl (M.1 68))),
  (g.1 69, .inl (g.2.2.1 0, 60, .inl (M.1 69))),
  (g.1 70, .inl (g.2.2.1 0, 60, .inl (M.1 70))),
  (g.1 71, .inl (g.2.2.1 0, 60, .inl (M.1 71))),
  (g.1 72, .inl (g.2.2.1 0, 60, .inl (M.1 72))),
  (g.1 73, .inl (g.2.2.1 0, 8, .inl (M.1 73))),
  (g.1 74, .inl (g.2.2.1 0, 48, .inl (M.1 74))),
  (g.1 75, .inl (g.2.2.1 0, 48, .inl (M.1 75))),
  (g.1 76, .inl (g.2.2.1 1, 48, .inl (M.1 76))),
  (g.1 77, .inl (g.2.2.1 0, 40, .inl (M.1 77))),
  (g.1 78, .inl (g.2.2.1 0, 40, .inl (M.1 78))),
  (g.1 79, .inl (g.2.2.1 0, 240, .inl (M.1 79))),
  (g.1 80, .inl (g.2.2.1 0, 5, .inl (M.1 80))),
  (g.1 81, .inl (g.2.2.1 0, 60, .inl (M.1 81))),
  (g.1 82, .inl (g.2.2.1 0, 100, .inl (M.1 82))),
  (g.1 83, .inl (g.2.2.1 0, 100, .inl (M.1 83))),
  (g.1 84, .inl (g.2.2.1 0, 100, .inl (M.1 84))),
  (g.1 85, .inl (g.2.2.1 0, 100, .inl (M.1 85))),
  (g.1 86, .inl (g.2.2.1 0, 100, .inl (M.1 86))),
  (g.1 87, .inl (g.2.2.1 0, 100, .inl (M.1 87))),
  (g.1 88, .inl (g.2.2.1 1, 100, .inl (M.1 88))),
  (g.1 89, .inl (g.2.2.1 0, 60, .inl (M.1 89))),
  (g.1 90, .inl (g.2.2.1 0, 60, .inl (M.1 90))),
  (g.1 91, .inl (g.2.2.1 0, 60, .inl (M.1 91))),
  (g.1 92, .inl (g.2.2.1 0, 60, .inl (M.1 92))),
  (g.1 93, .inl (g.2.2.1 0, 64, .inl (M.1 93))),
  (g.1 94, .inl (g.2.2.1 0, 8, .inl (M.1 94))),
  (g.1 95, .inl (g.2.2.1 0, 6, .inl (M.1 95))),
  (g.1 96, .inl (g.2.2.1 0, 60, .inl (M.1 96))),
  (g.1 97, .inl (g.2.2.1 0, 5, .inl (M.1 97))),
  (g.1 98, .inl (g.2.2.1 1, 8, .inl (M.1 98))),
  (g.1 99, .inl (g.2.2.1 0, 8, .inl (M.1 99))),
  (g.1 100, .inl (g.2.2.1 0, 14, .inl (M.1 100))),
  (g.1 101, .inl (g.2.2.1 0, 14, .inl (M.1 101)))]
def inW (g : Cx) : Nat → Prop := fun q => ∃ k : Nat, k < 102 ∧ q = g.1 k
def DJ (g : Cx) : Prop := ∀ i j : Nat, i < 102 → j < 102 → g.1 i = g.1 j → i = j
theorem wl_ad (g : Cx) (M : Mem) : (wl g M).map (fun p => p.1) = (List.range 102).map g.1 := rfl
theorem wl_at {g : Cx} {M : Mem} {k : Nat} {p : Nat × va_E} (h : (wl g M)[k]? = some p) : k < 102 ∧ p.1 = g.1 k := by
  have h1 : ((wl g M).map (fun p => p.1))[k]? = some p.1 := by rw [List.getElem?_map, h]; rfl
  rw [wl_ad, List.getElem?_map] at h1
  by_cases hk : k < 102
  · rw [List.getElem?_range hk] at h1
    exact ⟨hk, (Option.some.inj h1).symm⟩
  · have hn : (List.range 102)[k]? = none := List.getElem?_eq_none (by rw [List.length_range]; omega)
    rw [hn] at h1
    cases h1
theorem wl_D {g : Cx} (h : DJ g) (M : Mem) : va_D (inW g) (wl g M) := by
  refine ⟨fun i j p q hi hj e => ?_, fun k q hk => ?_⟩
  · obtain ⟨h1, h2⟩ := wl_at hi
    obtain ⟨h3, h4⟩ := wl_at hj
    exact h i j h1 h3 (by rw [← h2, ← h4]; exact e)
  · obtain ⟨h1, h2⟩ := wl_at hk
    exact ⟨k, h1, h2⟩
def tysG (g : Cx) : List (ClassId × FieldType) := [(g.2.2.1 0, .int), (g.2.2.1 1, .boolean), (g.2.2.1 2, .long), (g.2.2.1 3, .array .int)]
/-- an int array of n places at cell q -/
def IA (q n : Nat) : Prop := (∀ (g : Cx) (M : Mem), (wl g M)[q]? = some (g.1 q, .inl (g.2.2.1 0, n, .inl (M.1 q)))) ∧ ∀ (g : Cx) (M : Mem) (i : Nat) (x : Int32), (wl g M).set q (g.1 q, .inl (g.2.2.1 0, n, .inl (upd (M.1 q) i x))) = wl g (up2 M q i x)
def ZA (q n : Nat) : Prop := (∀ (g : Cx) (M : Mem), (wl g M)[q]? = some (g.1 q, .inl (g.2.2.1 1, n, .inl (M.1 q)))) ∧ ∀ (g : Cx) (M : Mem) (i : Nat) (x : Int32), (wl g M).set q (g.1 q, .inl (g.2.2.1 1, n, .inl (upd (M.1 q) i x))) = wl g (up2 M q i x)
def LA (q n : Nat) : Prop := (∀ (g : Cx) (M : Mem), (wl g M)[q]? = some (g.1 q, .inl (g.2.2.1 2, n, .inr (.inl M.2)))) ∧ ∀ (g : Cx) (M : Mem) (i : Nat) (x : Int64), (wl g M).set q (g.1 q, .inl (g.2.2.1 2, n, .inr (.inl (vp_updL M.2 i x)))) = wl g (upL M i x)
def OB (q ci : Nat) (fs : Cx → Mem → List Value) : Prop := ∀ (g : Cx) (M : Mem), (wl g M)[q]? = some (g.1 q, .inr (ci, fs g M))
def PF (q ci j : Nat) (fs : Cx → Mem → List Value) : Prop := ∀ (g : Cx) (M : Mem) (x : Int32), (wl g M).set q (g.1 q, .inr (ci, (fs g M).set j (.int x))) = wl g (up2 M q j x)
theorem ob0 : OB 0 10 fs0 := fun _ _ => rfl
theorem pf0_12 : PF 0 10 12 fs0 := fun _ _ _ => rfl
theorem pf0_13 : PF 0 10 13 fs0 := fun _ _ _ => rfl
theorem ob1 : OB 1 1 fs1 := fun _ _ => rfl
theorem pf1_1 : PF 1 1 1 fs1 := fun _ _ _ => rfl
theorem pf1_2 : PF 1 1 2 fs1 := fun _ _ _ => rfl
theorem pf1_3 : PF 1 1 3 fs1 := fun _ _ _ => rfl
theorem ob2 : OB 2 8 fs2 := fun _ _ => rfl
theorem pf2_3 : PF 2 8 3 fs2 := fun _ _ _ => rfl
theorem pf2_8 : PF 2 8 8 fs2 := fun _ _ _ => rfl
theorem pf2_10 : PF 2 8 10 fs2 := fun _ _ _ => rfl
theorem pf2_11 : PF 2 8 11 fs2 := fun _ _ _ => rfl
theorem pf2_12 : PF 2 8 12 fs2 := fun _ _ _ => rfl
theorem pf2_13 : PF 2 8 13 fs2 := fun _ _ _ => rfl
theorem pf2_14 : PF 2 8 14 fs2 := fun _ _ _ => rfl
theorem pf2_15 : PF 2 8 15 fs2 := fun _ _ _ => rfl
theorem ob3 : OB 3 2 fs3 := fun _ _ => rfl
theorem pf3_4 : PF 3 2 4 fs3 := fun _ _ _ => rfl
theorem ob4 : OB 4 4 fs4 := fun _ _ => rfl
theorem pf4_6 : PF 4 4 6 fs4 := fun _ _ _ => rfl
theorem ob5 : OB 5 5 fs5 := fun _ _ => rfl
theorem pf5_3 : PF 5 5 3 fs5 := fun _ _ _ => rfl
theorem pf5_4 : PF 5 5 4 fs5 := fun _ _ _ => rfl
theorem ob6 : OB 6 9 fs6 := fun _ _ => rfl
theorem pf6_10 : PF 6 9 10 fs6 := fun _ _ _ => rfl
theorem ob7 : OB 7 7 fs7 := fun _ _ => rfl
theorem pf7_4 : PF 7 7 4 fs7 := fun _ _ _ => rfl
theorem ob8 : OB 8 3 fs8 := fun _ _ => rfl
theorem ob9 : OB 9 0 fs9 := fun _ _ => rfl
theorem ob10 : OB 10 6 fs10 := fun _ _ => rfl
theorem pf10_4 : PF 10 6 4 fs10 := fun _ _ _ => rfl
theorem pf10_5 : PF 10 6 5 fs10 := fun _ _ _ => rfl
theorem ob11 : OB 11 11 fs11 := fun _ _ => rfl
theorem pf11_0 : PF 11 11 0 fs11 := fun _ _ _ => rfl
theorem pf11_2 : PF 11 11 2 fs11 := fun _ _ _ => rfl
theorem pf11_3 : PF 11 11 3 fs11 := fun _ _ _ => rfl
theorem pf11_4 : PF 11 11 4 fs11 := fun _ _ _ => rfl
theorem pf11_7 : PF 11 11 7 fs11 := fun _ _ _ => rfl
theorem pf11_12 : PF 11 11 12 fs11 := fun _ _ _ => rfl
theorem pf11_17 : PF 11 11 17 fs11 := fun _ _ _ => rfl
theorem pf11_21 : PF 11 11 21 fs11 := fun _ _ _ => rfl
theorem pf11_24 : PF 11 11 24 fs11 := fun _ _ _ => rfl
theorem pf11_25 : PF 11 11 25 fs11 := fun _ _ _ => rfl
theorem pf11_33 : PF 11 11 33 fs11 := fun _ _ _ => rfl
theorem pf11_39 : PF 11 11 39 fs11 := fun _ _ _ => rfl
theorem pf11_44 : PF 11 11 44 fs11 := fun _ _ _ => rfl
theorem ia12 : IA 12 6 := ⟨fun _ _ => rfl, fun _ _ _ _ => rfl⟩
theorem ia13 : IA 13 8 := ⟨fun _ _ => rfl, fun _ _ _ _ => rfl⟩
theorem ia14 : IA 14 12 := ⟨fun _ _ => rfl, fun _ _ _ _ => rfl⟩
theorem ia15 : IA 15 4 := ⟨fun _ _ => rfl, fun _ _ _ _ => rfl⟩
theorem ia16 : IA 16 4 := ⟨fun _ _ => rfl, fun _ _ _ _ => rfl⟩
theorem ia17 : IA 17 60 := ⟨fun _ _ => rfl, fun _ _ _ _ => rfl⟩
theorem ia18 : IA 18 60 := ⟨fun _ _ => rfl, fun _ _ _ _ => rfl⟩
theorem ia19 : IA 19 60 := ⟨fun _ _ => rfl, fun _ _ _ _ => rfl⟩
theorem ia20 : IA 20 60 := ⟨fun _ _ => rfl, fun _ _ _ _ => rfl⟩
theorem ia21 : IA 21 60 := ⟨fun _ _ => rfl, fun _ _ _ _ => rfl⟩
theorem ia22 : IA 22 8 := ⟨fun _ _ => rfl, fun _ _ _ _ => rfl⟩
theorem ia23 : IA 23 48 := ⟨fun _ _ => rfl, fun _ _ _ _ => rfl⟩
theorem ia24 : IA 24 48 := ⟨fun _ _ => rfl, fun _ _ _ _ => rfl⟩
theorem za25 : ZA 25 48 := ⟨fun _ _ => rfl, fun _ _ _ _ => rfl⟩
theorem ia26 : IA 26 40 := ⟨fun _ _ => rfl, fun _ _ _ _ => rfl⟩
theorem ia27 : IA 27 40 := ⟨fun _ _ => rfl, fun _ _ _ _ => rfl⟩
theorem ia28 : IA 28 40 := ⟨fun _ _ => rfl, fun _ _ _ _ => rfl⟩
theorem ia29 : IA 29 240 := ⟨fun _ _ => rfl, fun _ _ _ _ => rfl⟩
theorem ia30 : IA 30 5 := ⟨fun _ _ => rfl, fun _ _ _ _ => rfl⟩
theorem ia31 : IA 31 5 := ⟨fun _ _ => rfl, fun _ _ _ _ => rfl⟩
theorem ia32 : IA 32 60 := ⟨fun _ _ => rfl, fun _ _ _ _ => rfl⟩
theorem ia33 : IA 33 100 := ⟨fun _ _ => rfl, fun _ _ _ _ => rfl⟩
theorem ia34 : IA 34 100 := ⟨fun _ _ => rfl, fun _ _ _ _ => rfl⟩
theorem ia35 : IA 35 100 := ⟨fun _ _ => rfl, fun _ _ _ _ => rfl⟩
theorem ia36 : IA 36 100 := ⟨fun _ _ => rfl, fun _ _ _ _ => rfl⟩
theorem ia37 : IA 37 100 := ⟨fun _ _ => rfl, fun _ _ _ _ => rfl⟩
theorem ia38 : IA 38 100 := ⟨fun _ _ => rfl, fun _ _ _ _ => rfl⟩
theorem za39 : ZA 39 100 := ⟨fun _ _ => rfl, fun _ _ _ _ => rfl⟩
theorem ia40 : IA 40 64 := ⟨fun _ _ => rfl, fun _ _ _ _ => rfl⟩
theorem ia41 : IA 41 60 := ⟨fun _ _ => rfl, fun _ _ _ _ => rfl⟩
theorem ia42 : IA 42 60 := ⟨fun _ _ => rfl, fun _ _ _ _ => rfl⟩
theorem ia43 : IA 43 60 := ⟨fun _ _ => rfl, fun _ _ _ _ => rfl⟩
theorem ia44 : IA 44 4 := ⟨fun _ _ => rfl, fun _ _ _ _ => rfl⟩
theorem la45 : LA 45 64 := ⟨fun _ _ => rfl, fun _ _ _ _ => rfl⟩
theorem ia46 : IA 46 64 := ⟨fun _ _ => rfl, fun _ _ _ _ => rfl⟩
theorem ia47 : IA 47 8 := ⟨fun _ _ => rfl, fun _ _ _ _ => rfl⟩
theorem ia48 : IA 48 14 := ⟨fun _ _ => rfl, fun _ _ _ _ => rfl⟩
theorem za49 : ZA 49 14 := ⟨fun _ _ => rfl, fun _ _ _ _ => rfl⟩
theorem ia51 : IA 51 183 := ⟨fun _ _ => rfl, fun _ _ _ _ => rfl⟩
theorem ia52 : IA 52 183 := ⟨fun _ _ => rfl, fun _ _ _ _ => rfl⟩
theorem ia53 : IA 53 183 := ⟨fun _ _ => rfl, fun _ _ _ _ => rfl⟩
theorem ia54 : IA 54 183 := ⟨fun _ _ => rfl, fun _ _ _ _ => rfl⟩
theorem ia55 : IA 55 183 := ⟨fun _ _ => rfl, fun _ _ _ _ => rfl⟩
theorem ia56 : IA 56 183 := ⟨fun _ _ => rfl, fun _ _ _ _ => rfl⟩
theorem ia57 : IA 57 183 := ⟨fun _ _ => rfl, fun _ _ _ _ => rfl⟩
theorem ia58 : IA 58 183 := ⟨fun _ _ => rfl, fun _ _ _ _ => rfl⟩
theorem ia59 : IA 59 183 := ⟨fun _ _ => rfl, fun _ _ _ _ => rfl⟩
theorem ia60 : IA 60 183 := ⟨fun _ _ => rfl, fun _ _ _ _ => rfl⟩
theorem ia61 : IA 61 183 := ⟨fun _ _ => rfl, fun _ _ _ _ => rfl⟩
theorem ia62 : IA 62 183 := ⟨fun _ _ => rfl, fun _ _ _ _ => rfl⟩
theorem ia63 : IA 63 183 := ⟨fun _ _ => rfl, fun _ _ _ _ => rfl⟩
theorem ia64 : IA 64 183 := ⟨fun _ _ => rfl, fun _ _ _ _ => rfl⟩
theorem ia65 : IA 65 183 := ⟨fun _ _ => rfl, fun _ _ _ _ => rfl⟩
theorem ia66 : IA 66 12 := ⟨fun _ _ => rfl, fun _ _ _ _ => rfl⟩
theorem ia67 : IA 67 20 := ⟨fun _ _ => rfl, fun _ _ _ _ => rfl⟩
theorem ia68 : IA 68 20 := ⟨fun _ _ => rfl, fun _ _ _ _ => rfl⟩
theorem ia69 : IA 69 60 := ⟨fun _ _ => rfl, fun _ _ _ _ => rfl⟩
theorem ia70 : IA 70 60 := ⟨fun _ _ => rfl, fun _ _ _ _ => rfl⟩
theorem ia71 : IA 71 60 := ⟨fun _ _ => rfl, fun _ _ _ _ => rfl⟩
theorem ia72 : IA 72 60 := ⟨fun _ _ => rfl, fun _ _ _ _ => rfl⟩
theorem ia73 : IA 73 8 := ⟨fun _ _ => rfl, fun _ _ _ _ => rfl⟩
theorem ia74 : IA 74 48 := ⟨fun _ _ => rfl, fun _ _ _ _ => rfl⟩
theorem ia75 : IA 75 48 := ⟨fun _ _ => rfl, fun _ _ _ _ => rfl⟩
theorem za76 : ZA 76 48 := ⟨fun _ _ => rfl, fun _ _ _ _ => rfl⟩
theorem ia77 : IA 77 40 := ⟨fun _ _ => rfl, fun _ _ _ _ => rfl⟩
theorem ia78 : IA 78 40 := ⟨fun _ _ => rfl, fun _ _ _ _ => rfl⟩
theorem ia79 : IA 79 240 := ⟨fun _ _ => rfl, fun _ _ _ _ => rfl⟩
theorem ia80 : IA 80 5 := ⟨fun _ _ => rfl, fun _ _ _ _ => rfl⟩
theorem ia81 : IA 81 60 := ⟨fun _ _ => rfl, fun _ _ _ _ => rfl⟩
theorem ia82 : IA 82 100 := ⟨fun _ _ => rfl, fun _ _ _ _ => rfl⟩
theorem ia83 : IA 83 100 := ⟨fun _ _ => rfl, fun _ _ _ _ => rfl⟩
theorem ia84 : IA 84 100 := ⟨fun _ _ => rfl, fun _ _ _ _ => rfl⟩
theorem ia85 : IA 85 100 := ⟨fun _ _ => rfl, fun _ _ _ _ => rfl⟩
theorem ia86 : IA 86 100 := ⟨fun _ _ => rfl, fun _ _ _ _ => rfl⟩
theorem ia87 : IA 87 100 := ⟨fun _ _ => rfl, fun _ _ _ _ => rfl⟩
theorem za88 : ZA 88 100 := ⟨fun _ _ => rfl, fun _ _ _ _ => rfl⟩
theorem ia89 : IA 89 60 := ⟨fun _ _ => rfl, fun _ _ _ _ => rfl⟩
theorem ia90 : IA 90 60 := ⟨fun _ _ => rfl, fun _ _ _ _ => rfl⟩
theorem ia91 : IA 91 60 := ⟨fun _ _ => rfl, fun _ _ _ _ => rfl⟩
theorem ia92 : IA 92 60 := ⟨fun _ _ => rfl, fun _ _ _ _ => rfl⟩
theorem ia93 : IA 93 64 := ⟨fun _ _ => rfl, fun _ _ _ _ => rfl⟩
theorem ia94 : IA 94 8 := ⟨fun _ _ => rfl, fun _ _ _ _ => rfl⟩
theorem ia95 : IA 95 6 := ⟨fun _ _ => rfl, fun _ _ _ _ => rfl⟩
theorem ia96 : IA 96 60 := ⟨fun _ _ => rfl, fun _ _ _ _ => rfl⟩
theorem ia97 : IA 97 5 := ⟨fun _ _ => rfl, fun _ _ _ _ => rfl⟩
theorem za98 : ZA 98 8 := ⟨fun _ _ => rfl, fun _ _ _ _ => rfl⟩
theorem ia99 : IA 99 8 := ⟨fun _ _ => rfl, fun _ _ _ _ => rfl⟩
theorem ia100 : IA 100 14 := ⟨fun _ _ => rfl, fun _ _ _ _ => rfl⟩
theorem ia101 : IA 101 14 := ⟨fun _ _ => rfl, fun _ _ _ _ => rfl⟩
theorem iaW {i : Nat} (h : i < 15) : IA (51 + i) 183 := by
  rcases (show i = 0 ∨ i = 1 ∨ i = 2 ∨ i = 3 ∨ i = 4 ∨ i = 5 ∨ i = 6 ∨ i = 7 ∨ i = 8 ∨ i = 9 ∨ i = 10 ∨ i = 11 ∨ i = 12 ∨ i = 13 ∨ i = 14 by omega) with rfl | rfl | rfl | rfl | rfl | rfl | rfl | rfl | rfl | rfl | rfl | rfl | rfl | rfl | rfl
  · exact ia51
  · exact ia52
  · exact ia53
  · exact ia54
  · exact ia55
  · exact ia56
  · exact ia57
  · exact ia58
  · exact ia59
  · exact ia60
  · exact ia61
  · exact ia62
  · exact ia63
  · exact ia64
  · exact ia65
theorem waW : ∀ (g : Cx) (M : Mem), (wl g M)[50]? = some (g.1 50, .inl (g.2.2.1 3, 15, .inr (.inr (.inr (.inr (fun i => if i < 15 then some (g.1 (51 + i)) else none)))))) := fun _ _ => rfl
