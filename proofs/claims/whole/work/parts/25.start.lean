/-! THE START: statics, texts, classes; both objects are made; then the loop -/
theorem tb_t {w : Cond} (i : Nat) (h : tables_1[i]? = some w) : w ∈ lw_tbl := List.mem_append_right _ (List.mem_of_getElem? h)
set_option maxRecDepth 100000 in
theorem nm_A_a : Cond.arrayOf (.static "BenchTimes$Elements" "ABOVE" "[I") .int ∈ flatC (Jvm.Cond.and given_1 narrow_1) := by decide +kernel
set_option maxRecDepth 100000 in
theorem nm_A_l : Cond.eq (.length (.static "BenchTimes$Elements" "ABOVE" "[I")) (.int (Int32.ofNat 4)) ∈ flatC (Jvm.Cond.and given_1 narrow_1) := by decide +kernel
set_option maxRecDepth 100000 in
theorem nm_A_e : ∀ j : Nat, j < 4 → Cond.eq (.elem (.static "BenchTimes$Elements" "ABOVE" "[I") (.int (Int32.ofNat j))) (.int (tbA j)) ∈ flatC (Jvm.Cond.and given_1 narrow_1) := by decide +kernel
set_option maxRecDepth 100000 in
theorem ls_A : Cond.laysStatic "BenchTimes$Elements" "ABOVE" "[I" ∈ lw_tbl := tb_t 382 (by decide +kernel)
set_option maxRecDepth 100000 in
theorem nm_G_a : Cond.arrayOf (.static "BenchTimes$Rules" "GREATEST" "[I") .int ∈ flatC (Jvm.Cond.and given_1 narrow_1) := by decide +kernel
set_option maxRecDepth 100000 in
theorem nm_G_l : Cond.eq (.length (.static "BenchTimes$Rules" "GREATEST" "[I")) (.int (Int32.ofNat 5)) ∈ flatC (Jvm.Cond.and given_1 narrow_1) := by decide +kernel
set_option maxRecDepth 100000 in
theorem nm_G_e : ∀ j : Nat, j < 5 → Cond.eq (.elem (.static "BenchTimes$Rules" "GREATEST" "[I") (.int (Int32.ofNat j))) (.int (tbG j)) ∈ flatC (Jvm.Cond.and given_1 narrow_1) := by decide +kernel
set_option maxRecDepth 100000 in
theorem ls_G : Cond.laysStatic "BenchTimes$Rules" "GREATEST" "[I" ∈ lw_tbl := tb_t 729 (by decide +kernel)
set_option maxRecDepth 100000 in
theorem nm_W_a : Cond.arrayOf (.static "BenchTimesModel" "WORDS" "[I") .int ∈ flatC (Jvm.Cond.and given_1 narrow_1) := by decide +kernel
set_option maxRecDepth 100000 in
theorem nm_W_l : Cond.eq (.length (.static "BenchTimesModel" "WORDS" "[I")) (.int (Int32.ofNat 25)) ∈ flatC (Jvm.Cond.and given_1 narrow_1) := by decide +kernel
set_option maxRecDepth 100000 in
theorem nm_W_e : ∀ j : Nat, j < 25 → Cond.eq (.elem (.static "BenchTimesModel" "WORDS" "[I") (.int (Int32.ofNat j))) (.int (tbW j)) ∈ flatC (Jvm.Cond.and given_1 narrow_1) := by decide +kernel
set_option maxRecDepth 100000 in
theorem ls_W : Cond.laysStatic "BenchTimesModel" "WORDS" "[I" ∈ lw_tbl := tb_t 1305 (by decide +kernel)
set_option maxRecDepth 100000 in
theorem ls_C : Cond.laysStatic "java/lang/String" "COMPACT_STRINGS" "Z" ∈ lw_tbl := tb_t 679 (by decide +kernel)
set_option maxRecDepth 100000 in
theorem ls_Q : Cond.laysStatic "jdk/internal/util/Preconditions" "SIOOBE_FORMATTER" "Ljava/util/function/BiFunction;" ∈ lw_tbl := tb_t 695 (by decide +kernel)
set_option maxRecDepth 100000 in
theorem ini_str : Cond.initialized "java/lang/String" ∈ gd := gd_1 15 ⟨rfl, rfl⟩
set_option maxRecDepth 100000 in
theorem ini_pre : Cond.initialized "jdk/internal/util/Preconditions" ∈ gd := gd_1 17 ⟨rfl, rfl⟩
set_option maxRecDepth 100000 in
theorem ini_el : Cond.initialized "BenchTimes$Elements" ∈ gd := gd_1 2 ⟨rfl, rfl⟩
set_option maxRecDepth 100000 in
theorem ini_ru : Cond.initialized "BenchTimes$Rules" ∈ gd := gd_1 6 ⟨rfl, rfl⟩
set_option maxRecDepth 100000 in
theorem ini_mo : Cond.initialized "BenchTimesModel" ∈ gd := gd_1 13 ⟨rfl, rfl⟩
set_option maxRecDepth 100000 in
theorem nm_C : Cond.eq (.static "java/lang/String" "COMPACT_STRINGS" "Z") (.int 1) ∈ flatC (Jvm.Cond.and given_1 narrow_1) := by decide +kernel
set_option maxRecDepth 100000 in
theorem nm_Q : Cond.isRef (.static "jdk/internal/util/Preconditions" "SIOOBE_FORMATTER" "Ljava/util/function/BiFunction;") ∈ flatC (Jvm.Cond.and given_1 narrow_1) := by decide +kernel
def sTm (i : Nat) : Term := .string "BenchTimes$Rules" ([84, 86, 88, 90, 92].getD i 0)
set_option maxRecDepth 100000 in
theorem nm_sx : ∀ i : Nat, i < 5 → Cond.exactly (sTm i) "java/lang/String" ∈ flatC (Jvm.Cond.and given_1 narrow_1) := by decide +kernel
set_option maxRecDepth 100000 in
theorem nm_sc : ∀ i : Nat, i < 5 → Cond.eq (.field (sTm i) "java/lang/String" "coder" "B") (.int 0) ∈ flatC (Jvm.Cond.and given_1 narrow_1) := by decide +kernel
set_option maxRecDepth 100000 in
theorem nm_sa : ∀ i : Nat, i < 5 → Cond.arrayOf (.field (sTm i) "java/lang/String" "value" "[B") .byte ∈ flatC (Jvm.Cond.and given_1 narrow_1) := by decide +kernel
set_option maxRecDepth 100000 in
theorem nm_sl : ∀ i : Nat, i < 5 → Cond.eq (.length (.field (sTm i) "java/lang/String" "value" "[B")) (.int (Int32.ofNat (sLen.getD i 0))) ∈ flatC (Jvm.Cond.and given_1 narrow_1) := by decide +kernel
set_option maxRecDepth 100000 in
theorem nm_se : ∀ i : Nat, i < 5 → ∀ j : Nat, j < sLen.getD i 0 → Cond.eq (.elem (.field (sTm i) "java/lang/String" "value" "[B") (.int (Int32.ofNat j))) (.int ((sByt.getD i []).getD j 0)) ∈ flatC (Jvm.Cond.and given_1 narrow_1) := by decide +kernel
set_option maxRecDepth 100000 in
theorem nm_sn : ∀ i : Nat, i < 5 → ∀ j : Nat, j < 5 → i ≠ j → (Cond.not (Cond.eq (sTm i) (sTm j)) ∈ flatC (Jvm.Cond.and given_1 narrow_1) ∨ Cond.not (Cond.eq (sTm j) (sTm i)) ∈ flatC (Jvm.Cond.and given_1 narrow_1)) := by decide +kernel
set_option maxRecDepth 100000 in
theorem sr_0 : Cond.stringRef "BenchTimes$Rules" 84 "share" ∈ lw_tbl := tb_t 661 (by decide +kernel)
set_option maxRecDepth 100000 in
theorem sr_1 : Cond.stringRef "BenchTimes$Rules" 86 "keep" ∈ lw_tbl := tb_t 662 (by decide +kernel)
set_option maxRecDepth 100000 in
theorem sr_2 : Cond.stringRef "BenchTimes$Rules" 88 "wait" ∈ lw_tbl := tb_t 663 (by decide +kernel)
set_option maxRecDepth 100000 in
theorem sr_3 : Cond.stringRef "BenchTimes$Rules" 90 "free" ∈ lw_tbl := tb_t 664 (by decide +kernel)
set_option maxRecDepth 100000 in
theorem sr_4 : Cond.stringRef "BenchTimes$Rules" 92 "sure" ∈ lw_tbl := tb_t 665 (by decide +kernel)
set_option maxRecDepth 100000 in
theorem ao_t : Cond.arrayOver (.array .int) ∈ lw_tbl := tb_t 283 (by decide +kernel)
set_option maxRecDepth 100000 in
theorem nestI_t : ∀ w ∈ nestI, w ∈ lw_tbl := List.forall_mem_cons.mpr ⟨tb_t 29 (by decide +kernel), List.forall_mem_cons.mpr ⟨tb_t 104 (by decide +kernel), List.forall_mem_cons.mpr ⟨tb_t 155 (by decide +kernel), List.forall_mem_cons.mpr ⟨tb_t 220 (by decide +kernel), fun _ h => absurd h List.not_mem_nil⟩⟩⟩⟩
theorem nestI_o : ∀ w ∈ nestI, w.onTables = true := by decide
set_option maxRecDepth 100000 in
theorem nestW_t : ∀ w ∈ nestW, w ∈ lw_tbl := List.forall_mem_cons.mpr ⟨tb_t 353 (by decide +kernel), List.forall_mem_cons.mpr ⟨tb_t 503 (by decide +kernel), List.forall_mem_cons.mpr ⟨tb_t 727 (by decide +kernel), List.forall_mem_cons.mpr ⟨tb_t 805 (by decide +kernel), List.forall_mem_cons.mpr ⟨tb_t 856 (by decide +kernel), fun _ h => absurd h List.not_mem_nil⟩⟩⟩⟩⟩
theorem nestW_o : ∀ w ∈ nestW, w.onTables = true := by decide
set_option maxRecDepth 100000 in
theorem in_X10 : Cond.instantiable RX10 14 ∈ gd := gd_1 20 ⟨rfl, rfl⟩
set_option maxRecDepth 100000 in
theorem it_X10 : Cond.initialized RX10 ∈ gd := gd_1 1 ⟨rfl, rfl⟩
set_option maxRecDepth 100000 in
theorem im_X10_init : Cond.instanceMethod yX10_init ∈ gd := gd_1 22 ⟨rfl, rfl⟩
set_option maxRecDepth 100000 in
theorem df_X10 : ∀ j, j < 14 → defaultValue (tyX10 j) = vp_V [.null, .null, .null, .null, .null, .null, .null, .null, .null, .null, .null, .null, .int 0, .int 0] j := by decide
set_option maxRecDepth 100000 in
theorem in_X11 : Cond.instantiable RX11 49 ∈ gd := gd_5 49 ⟨rfl, rfl⟩
set_option maxRecDepth 100000 in
theorem it_X11 : Cond.initialized RX11 ∈ gd := gd_1 13 ⟨rfl, rfl⟩
set_option maxRecDepth 100000 in
theorem im_X11_init : Cond.instanceMethod yX11_init ∈ gd := gd_5 51 ⟨rfl, rfl⟩
set_option maxRecDepth 100000 in
theorem df_X11 : ∀ j, j < 49 → defaultValue (tyX11 j) = vp_V [.int 0, .null, .int 0, .int 0, .int 0, .null, .null, .int 0, .null, .null, .null, .null, .int 0, .null, .null, .null, .null, .int 0, .null, .null, .null, .int 0, .null, .null, .int 0, .int 0, .null, .null, .null, .null, .null, .null, .null, .int 0, .null, .null, .null, .null, .null, .int 0, .null, .null, .null, .null, .int 0, .null, .null, .null, .null] j := by decide
set_option maxRecDepth 100000 in
theorem clL_7 : Cond.classLink R_law 7 RX10 ∈ gd := gd_1 19 ⟨rfl, rfl⟩
set_option maxRecDepth 100000 in
theorem clL_10 : Cond.classLink R_law 10 RX11 ∈ gd := gd_5 48 ⟨rfl, rfl⟩
set_option maxRecDepth 100000 in
theorem mlL_9 : Cond.methodLink R_law 9 yX10_init ∈ gd := gd_1 21 ⟨rfl, rfl⟩
set_option maxRecDepth 100000 in
theorem mlL_12 : Cond.methodLink R_law 12 yX11_init ∈ gd := gd_5 50 ⟨rfl, rfl⟩
def M0 : Mem := (fun q => if q = 1 then (fun j => if j = 2 then 10 else if j = 3 then 5 else 0) else if q = 11 then (fun j => if j = 2 then 10 else if j = 3 then 5 else 0) else if q = 30 then (upd (upd (upd (upd (upd (fun _ => 0) (0 : Int32).toNatClampNeg 10) (1 : Int32).toNatClampNeg 4) (2 : Int32).toNatClampNeg 50) (3 : Int32).toNatClampNeg 3) (4 : Int32).toNatClampNeg 80) else if q = 80 then (upd (upd (upd (upd (upd (fun _ => 0) (0 : Int32).toNatClampNeg 10) (1 : Int32).toNatClampNeg 4) (2 : Int32).toNatClampNeg 50) (3 : Int32).toNatClampNeg 3) (4 : Int32).toNatClampNeg 80) else if q = 40 then fl (fun _ => 0) (-1) 64 else if q = 93 then fl (fun _ => 0) (-1) 64 else (fun _ => 0), fun _ => 0)
theorem DJ_of {A : Nat → Prop} {g : Cx} {M : Mem} (h : va_D A (wl g M)) : DJ g ∧ ∀ q : Nat, inW g q → A q := by
  have key : ∀ i : Nat, i < 102 → ∃ p : Nat × va_E, (wl g M)[i]? = some p ∧ p.1 = g.1 i := by
    intro i hi
    have h1 : ((wl g M).map (fun p => p.1))[i]? = some (g.1 i) := by rw [wl_ad, List.getElem?_map, List.getElem?_range hi]; rfl
    rw [List.getElem?_map] at h1
    cases hp : (wl g M)[i]? with
    | none => rw [hp] at h1; cases h1
    | some p => rw [hp] at h1; exact ⟨p, rfl, Option.some.inj h1⟩
  refine ⟨fun i j hi hj e => ?_, fun q hq => ?_⟩
  · obtain ⟨p, p1, p2⟩ := key i hi
    obtain ⟨r, r1, r2⟩ := key j hj
    exact h.1 i j p r p1 r1 (by rw [p2, r2]; exact e)
  · obtain ⟨k, hk, rfl⟩ := hq
    obtain ⟨p, p1, p2⟩ := key k hk
    rw [← p2]
    exact h.2 k p p1
set_option maxHeartbeats 8000000 in
set_option maxRecDepth 100000 in
theorem law_from {Inv : Mem → Prop} (hI0 : Inv M0) (hst : StepAll Inv) {p : Program} {e : Env} {s : State} {m : MethodId} {below : List Frame} {meth : Method} {c : Code} (l : Launch) {b L : Nat} {xs : Nat → Int32} (hL : L ≤ 2560) (C0 : lw_At p s m meth c b L xs) : W p l e room_1 s m #[Value.ref b] below meth c s.heap [] 0 0 (lw_Z below #[Value.ref b] s) (entryFrame m ([Value.ref b] : List Value).toArray 4) := by
  obtain ⟨hx, hb, hr, hml, hown, hts, hX, hbl, hlocks, hgv⟩ := id C0
  have hgd : ∀ w ∈ gd, w.before #[Value.ref b] s = true := fun w hw => hts w (List.mem_filter.mp hw).1
  have hs := flat_of_before _ hgv
  have hA0 : ∀ a : Nat, a < s.heap.size → ¬ (fun q : Nat => s.heap.size ≤ q) a := fun a h => Nat.not_le.mpr h
  obtain ⟨tA, etA, hTA⟩ := va_Tof (tm := .static "BenchTimes$Elements" "ABOVE" "[I") (ty := .int) (N := 4) (f := fun j => .int (tbA j)) (A := fun q : Nat => s.heap.size ≤ q) (by decide) (hs _ nm_A_a) (va_eqt (hs _ nm_A_l)) (fun j hj => va_eqt (hs _ (nm_A_e j hj))) hA0
  have hZA := va_Zref (hts _ ls_A) (hgd _ ini_el) etA hA0
  obtain ⟨tG, etG, hTG⟩ := va_Tof (tm := .static "BenchTimes$Rules" "GREATEST" "[I") (ty := .int) (N := 5) (f := fun j => .int (tbG j)) (A := fun q : Nat => s.heap.size ≤ q) (by decide) (hs _ nm_G_a) (va_eqt (hs _ nm_G_l)) (fun j hj => va_eqt (hs _ (nm_G_e j hj))) hA0
  have hZG := va_Zref (hts _ ls_G) (hgd _ ini_ru) etG hA0
  obtain ⟨tW, etW, hTW⟩ := va_Tof (tm := .static "BenchTimesModel" "WORDS" "[I") (ty := .int) (N := 25) (f := fun j => .int (tbW j)) (A := fun q : Nat => s.heap.size ≤ q) (by decide) (hs _ nm_W_a) (va_eqt (hs _ nm_W_l)) (fun j hj => va_eqt (hs _ (nm_W_e j hj))) hA0
  have hZW := va_Zref (hts _ ls_W) (hgd _ ini_mo) etW hA0
  have hZC := va_Zof (A := fun q : Nat => s.heap.size ≤ q) (hts _ ls_C) (hgd _ ini_str) (va_eqi (hs _ nm_C)) hA0
  have hZQ := va_Zqof (A := fun q : Nat => s.heap.size ≤ q) (hts _ ls_Q) (hgd _ ini_pre) (hs _ nm_Q) hA0
  obtain ⟨adK, adV, hV, hVe⟩ := vk_Sof (tm := sTm) (len := sLen) (byt := sByt) (N := 5) (A := fun q : Nat => s.heap.size ≤ q) (fun i _ => sLen_lt) (fun i hi => hs _ (nm_sx i hi)) (fun i hi => hs _ (nm_sc i hi)) (fun i hi => hs _ (nm_sa i hi)) (fun i hi => hs _ (nm_sl i hi)) (fun i hi j hj => hs _ (nm_se i hi j hj)) (fun i j hi hj hij => (nm_sn i hi j hj hij).imp (hs _) (hs _)) hA0
  obtain ⟨c0, i0, hKn0⟩ := u_known (C := RX0) (T := TX0) (N := 4) (n := 4) hgd lay_X0 (hgd _ in_X0)
  obtain ⟨c1, i1, hKn1⟩ := u_known (C := RX1) (T := TX1) (N := 4) (n := 4) hgd lay_X1 (hgd _ in_X1)
  obtain ⟨c2, i2, hKn2⟩ := u_known (C := RX2) (T := TX2) (N := 5) (n := 5) hgd lay_X2 (hgd _ in_X2)
  obtain ⟨c3, i3, hKn3⟩ := u_known (C := RX3) (T := TX3) (N := 3) (n := 3) hgd lay_X3 (hgd _ in_X3)
  obtain ⟨c4, i4, hKn4⟩ := u_known (C := RX4) (T := TX4) (N := 7) (n := 7) hgd lay_X4 (hgd _ in_X4)
  obtain ⟨c5, i5, hKn5⟩ := u_known (C := RX5) (T := TX5) (N := 5) (n := 5) hgd lay_X5 (hgd _ in_X5)
  obtain ⟨c6, i6, hKn6⟩ := u_known (C := RX6) (T := TX6) (N := 6) (n := 6) hgd lay_X6 (hgd _ in_X6)
  obtain ⟨c7, i7, hKn7⟩ := u_known (C := RX7) (T := TX7) (N := 5) (n := 5) hgd lay_X7 (hgd _ in_X7)
  obtain ⟨c8, i8, hKn8⟩ := u_known (C := RX8) (T := TX8) (N := 16) (n := 16) hgd lay_X8 (hgd _ in_X8)
  obtain ⟨c9, i9, hKn9⟩ := u_known (C := RX9) (T := TX9) (N := 11) (n := 11) hgd lay_X9 (hgd _ in_X9)
  obtain ⟨c10, i10, hKn10⟩ := u_known (C := RX10) (T := TX10) (N := 14) (n := 14) hgd lay_X10 (hgd _ in_X10)
  obtain ⟨c11, i11, hKn11⟩ := u_known (C := RX11) (T := TX11) (N := 49) (n := 49) hgd lay_X11 (hgd _ in_X11)
  obtain ⟨dC, dI, hKc⟩ : ∃ (dC : Nat → ClassId) (dI : Nat → Nat → Nat), ∀ (k : Nat) (q : vw_C), cls[k]? = some q → u_Kn s q.1 q.2.1 q.2.2 (dC k) (dI k) := by
    refine ⟨fun k => if k = 0 then c0 else if k = 1 then c1 else if k = 2 then c2 else if k = 3 then c3 else if k = 4 then c4 else if k = 5 then c5 else if k = 6 then c6 else if k = 7 then c7 else if k = 8 then c8 else if k = 9 then c9 else if k = 10 then c10 else c11, fun k => if k = 0 then i0 else if k = 1 then i1 else if k = 2 then i2 else if k = 3 then i3 else if k = 4 then i4 else if k = 5 then i5 else if k = 6 then i6 else if k = 7 then i7 else if k = 8 then i8 else if k = 9 then i9 else if k = 10 then i10 else i11, ?_⟩
    intro k q hq
    match k, hq with
    | 0, hq => cases hq; exact hKn0
    | 1, hq => cases hq; exact hKn1
    | 2, hq => cases hq; exact hKn2
    | 3, hq => cases hq; exact hKn3
    | 4, hq => cases hq; exact hKn4
    | 5, hq => cases hq; exact hKn5
    | 6, hq => cases hq; exact hKn6
    | 7, hq => cases hq; exact hKn7
    | 8, hq => cases hq; exact hKn8
    | 9, hq => cases hq; exact hKn9
    | 10, hq => cases hq; exact hKn10
    | 11, hq => cases hq; exact hKn11
    | k + 12, hq => simp [cls] at hq
  obtain ⟨aI, kI, mI, fI, gI, hI⟩ := Cond.arrayClass_spec (hgd _ ac_int)
  obtain ⟨aZ, kZ, mZ, fZ, gZ, hZ⟩ := Cond.arrayClass_spec (hgd _ ac_boolean)
  obtain ⟨aJ, kJ, mJ, fJ, gJ, hJ⟩ := Cond.arrayClass_spec (hgd _ ac_long)
  obtain ⟨mG, aG, kG, fm, gG, hG, fG⟩ := Cond.arrayOver_specA (hts _ ao_t)
  obtain ⟨ca, e0, e1, e2, e3⟩ : ∃ ca : Nat → ClassId, ca 0 = aI ∧ ca 1 = aZ ∧ ca 2 = aJ ∧ ca 3 = aG := ⟨fun k => if k = 0 then aI else if k = 1 then aZ else if k = 2 then aJ else aG, rfl, rfl, rfl, rfl⟩
  subst e0
  subst e1
  subst e2
  subst e3
  have hK : va_K (dC, dI) cls (tysC ca) s := ⟨hKc, fun k q hq => by
    match k, hq with
    | 0, hq => cases hq; exact ⟨fun n z => ⟨fun k h => (by cases h), kI, gI, mI, hI⟩, fI⟩
    | 1, hq => cases hq; exact ⟨fun n z => ⟨fun k h => (by cases h), kZ, gZ, mZ, hZ⟩, fZ⟩
    | 2, hq => cases hq; exact ⟨fun n z => ⟨fun k h => (by cases h), kJ, gJ, mJ, hJ⟩, fJ⟩
    | 3, hq => cases hq; exact ⟨fun n z => ⟨fun k h => (by cases h), kG, gG, mG, hG⟩, fG⟩
    | k + 4, hq => simp at hq⟩
  have hKC : KC (dC, dI) ca s := ⟨hK, fun w hw => va_Nw.of (nestI_o w hw) (hts w (nestI_t w hw)), hts _ ao_t⟩
  have hA : ∀ q : Nat, s.heap.size ≤ q → (fun q : Nat => s.heap.size ≤ q) q := fun _ h => h
  have hS : va_S (fun q : Nat => s.heap.size ≤ q) s.heap s.heap [] := va_S.rf
  have hP : va_P (dC, dI) cls [] s.heap := fun k q h => by simp at h
  have hD : va_D (fun q : Nat => s.heap.size ≤ q) [] := ⟨fun i j p q h => by simp at h, fun k q h => by simp at h⟩
  have hl := lv_entry ([.ref b]) (n := 4) (Nat.le_of_ble_eq_true rfl)
  rw [lg_entry_eq]
  generalize (lg_sl ([.ref b]) ++ List.replicate (4 - (lg_sl ([.ref b])).length) Slot.unset).toArray = ls at hl ⊢
  have hl : lv_has ls 4 [(0, .ref b)] := hl
  refine va_new (D := (dC, dI)) (cl := cls) (ci := 10) (fs := [.null, .null, .null, .null, .null, .null, .null, .null, .null, .null, .null, .null, .int 0, .int 0]) (C := RX10) (T := TX10) (N := 14) hx hb hgd lay_X10 tyX10 tyX10_ok hown (hgd _ clL_7) (hgd _ in_X10) (hgd _ it_X10) hK hP hD hS hA rfl df_X10 (Nat.le_of_ble_eq_true rfl) (Nat.le_of_ble_eq_true rfl) eL_0.1 (fun q0 H hP hD hS => ?_)
  refine lv_dup hx hb eL_3.1 rfl ?_
  have hG10 : GoodIn gd (Cond.code yX10_init cX10_init 1 none :: gd) := by
    intro w hw
    rcases List.mem_cons.mp hw with rfl | hw
    · exact gd_good mb_X10_init.2.1
    · exact gd_good hw
  refine N_run (G := (dC, dI)) (out := out_X10_init ca q0) (wc := [(q0, .inr (10, [.null, .null, .null, .null, .null, .null, .null, .null, .null, .null, .null, .null, .int 0, .int 0]))]) (wr := []) (rest := [.ref q0]) (va_runI (As := []) (rest := [.ref q0]) (Ts := gd) ⟨hx, hb, hml, hown, hgd⟩ (ci_X10_init l (dC, dI) ca q0 H.size) (cwI 0 hgd hG10 rfl rfl rfl (hgd _ it_X10) (hgd _ mlL_9) (hgd _ im_X10_init) rfl mb_X10_init.2.2 ⟨by decide, by decide⟩) ⟨N_blind, N_pre (as := [.ref q0]) hKC hP hD⟩ rfl rfl hl.1 rfl (lv_room (Nat.le_of_ble_eq_true rfl)) eL_4.1 ⟨by decide, by decide⟩) hP hD hS hA [0] [] rfl rfl (by decide) (by decide) (fun u1 H locs hP hD hS => ?_)
  refine lv_astore_n (lv' := [(1, .ref q0), (0, .ref b)]) hx hb eL_7.1 rfl hl (by decide) rfl (fun ls hl => ?_)
  have hP : va_P (dC, dI) cls (out_X10_init ca q0 u1) H := hP
  have hD : va_D (fun q : Nat => s.heap.size ≤ q) (out_X10_init ca q0 u1) := hD
  refine va_new (D := (dC, dI)) (cl := cls) (ci := 11) (fs := [.int 0, .null, .int 0, .int 0, .int 0, .null, .null, .int 0, .null, .null, .null, .null, .int 0, .null, .null, .null, .null, .int 0, .null, .null, .null, .int 0, .null, .null, .int 0, .int 0, .null, .null, .null, .null, .null, .null, .null, .int 0, .null, .null, .null, .null, .null, .int 0, .null, .null, .null, .null, .int 0, .null, .null, .null, .null]) (C := RX11) (T := TX11) (N := 49) hx hb hgd lay_X11 tyX11 tyX11_ok hown (hgd _ clL_10) (hgd _ in_X11) (hgd _ it_X11) hK hP hD hS hA rfl df_X11 (Nat.le_of_ble_eq_true rfl) (Nat.le_of_ble_eq_true rfl) eL_8.1 (fun q1 H hP hD hS => ?_)
  refine lv_dup hx hb eL_11.1 rfl ?_
  have hG11 : GoodIn gd (Cond.code yX11_init cX11_init 2 none :: gd) := by
    intro w hw
    rcases List.mem_cons.mp hw with rfl | hw
    · exact gd_good mb_X11_init.2.1
    · exact gd_good hw
  have hPc : va_P (dC, dI) cls [(q1, .inr (11, [.int 0, .null, .int 0, .int 0, .int 0, .null, .null, .int 0, .null, .null, .null, .null, .int 0, .null, .null, .null, .null, .int 0, .null, .null, .null, .int 0, .null, .null, .int 0, .int 0, .null, .null, .null, .null, .null, .null, .null, .int 0, .null, .null, .null, .null, .null, .int 0, .null, .null, .null, .null, .int 0, .null, .null, .null, .null]))] H := hP.sub [65] rfl
  have hDc : va_D (fun q : Nat => s.heap.size ≤ q) [(q1, .inr (11, [.int 0, .null, .int 0, .int 0, .int 0, .null, .null, .int 0, .null, .null, .null, .null, .int 0, .null, .null, .null, .null, .int 0, .null, .null, .null, .int 0, .null, .null, .int 0, .int 0, .null, .null, .null, .null, .null, .null, .null, .int 0, .null, .null, .null, .null, .null, .int 0, .null, .null, .null, .null, .int 0, .null, .null, .null, .null]))] := hD.sub [65] (by decide) rfl
  refine N_run (G := (dC, dI)) (out := out_X11_init ca q1) (wc := [(q1, .inr (11, [.int 0, .null, .int 0, .int 0, .int 0, .null, .null, .int 0, .null, .null, .null, .null, .int 0, .null, .null, .null, .null, .int 0, .null, .null, .null, .int 0, .null, .null, .int 0, .int 0, .null, .null, .null, .null, .null, .null, .null, .int 0, .null, .null, .null, .null, .null, .int 0, .null, .null, .null, .null, .int 0, .null, .null, .null, .null]))]) (wr := out_X10_init ca q0 u1) (rest := [.ref q1]) (va_runI (As := []) (rest := [.ref q1]) (Ts := gd) ⟨hx, hb, hml, hown, hgd⟩ (ci_X11_init l (dC, dI) ca q1 H.size) (cwI 0 hgd hG11 rfl rfl rfl (hgd _ it_X11) (hgd _ mlL_12) (hgd _ im_X11_init) rfl mb_X11_init.2.2 ⟨by decide, by decide⟩) ⟨N_blind, N_pre (as := [.ref q1]) hKC hPc hDc⟩ rfl rfl hl.1 rfl (lv_room (Nat.le_of_ble_eq_true rfl)) eL_12.1 ⟨by decide, by decide⟩) hP hD hS hA [65] [0, 1, 2, 3, 4, 5, 6, 7, 8, 9, 10, 11, 12, 13, 14, 15, 16, 17, 18, 19, 20, 21, 22, 23, 24, 25, 26, 27, 28, 29, 30, 31, 32, 33, 34, 35, 36, 37, 38, 39, 40, 41, 42, 43, 44, 45, 46, 47, 48, 49, 50, 51, 52, 53, 54, 55, 56, 57, 58, 59, 60, 61, 62, 63, 64] rfl rfl (by decide) (by decide) (fun u2 H locs hP hD hS => ?_)
  refine lv_astore_n (lv' := [(2, .ref q1), (1, .ref q0), (0, .ref b)]) hx hb eL_15.1 rfl hl (by decide) rfl (fun ls hl => ?_)
  refine lv_iconst (v := 0) hx hb eL_16.1 (by decide) ?_
  refine lv_istore_n (lv' := [(3, .int 0), (2, .ref q1), (1, .ref q0), (0, .ref b)]) hx hb eL_17.1 rfl hl (by decide) rfl (fun ls hl => ?_)
  obtain ⟨g, hg⟩ : ∃ g : Cx, g = (fun k => [q0, (u1 1), (u1 3), (u1 11), (u1 16), (u1 21), (u1 25), (u1 34), (u1 39), (u1 40), (u1 44), q1, (u1 0), (u1 48), (u1 2), (u1 4), (u1 5), (u1 6), (u1 7), (u1 8), (u1 9), (u1 10), (u1 12), (u1 13), (u1 14), (u1 15), (u1 17), (u1 18), (u1 19), (u1 20), (u1 22), (u1 23), (u1 24), (u1 26), (u1 27), (u1 28), (u1 29), (u1 30), (u1 31), (u1 32), (u1 33), (u1 35), (u1 36), (u1 37), (u1 38), (u1 41), (u1 42), (u1 43), (u1 45), (u1 46), (u1 47), ((u1 47) + 1 + 0), ((u1 47) + 1 + 1), ((u1 47) + 1 + 2), ((u1 47) + 1 + 3), ((u1 47) + 1 + 4), ((u1 47) + 1 + 5), ((u1 47) + 1 + 6), ((u1 47) + 1 + 7), ((u1 47) + 1 + 8), ((u1 47) + 1 + 9), ((u1 47) + 1 + 10), ((u1 47) + 1 + 11), ((u1 47) + 1 + 12), ((u1 47) + 1 + 13), ((u1 47) + 1 + 14), (u2 0), (u2 1), (u2 2), (u2 3), (u2 4), (u2 5), (u2 6), (u2 7), (u2 8), (u2 9), (u2 10), (u2 11), (u2 12), (u2 13), (u2 14), (u2 15), (u2 16), (u2 17), (u2 18), (u2 19), (u2 20), (u2 21), (u2 22), (u2 23), (u2 24), (u2 25), (u2 26), (u2 27), (u2 28), (u2 29), (u2 30), (u2 31), (u2 32), (u2 33), (u2 34), (u2 35)].getD k 0, (dC, dI), ca, fun k => if k = 0 then tA else if k = 1 then tG else tW, adK, adV) := ⟨_, rfl⟩
  have hgrid : (fun i => if i < 15 then some (g.1 (51 + i)) else none) = (fun i => if i < 15 then some ((u1 47) + 1 + i) else none) := by
    funext i
    by_cases h : i < 15
    · rw [if_pos h, if_pos h, hg]
      rcases (show i = 0 ∨ i = 1 ∨ i = 2 ∨ i = 3 ∨ i = 4 ∨ i = 5 ∨ i = 6 ∨ i = 7 ∨ i = 8 ∨ i = 9 ∨ i = 10 ∨ i = 11 ∨ i = 12 ∨ i = 13 ∨ i = 14 by omega) with rfl | rfl | rfl | rfl | rfl | rfl | rfl | rfl | rfl | rfl | rfl | rfl | rfl | rfl | rfl <;> rfl
    · rw [if_neg h, if_neg h]
  have hPw : va_P g.2.1 cls (wl g M0) H := by
    unfold wl
    rw [hgrid, hg]
    exact hP.sub [0, 2, 4, 12, 17, 22, 26, 35, 40, 41, 45, 65, 1, 64, 3, 5, 6, 7, 8, 9, 10, 11, 13, 14, 15, 16, 18, 19, 20, 21, 23, 24, 25, 27, 28, 29, 30, 31, 32, 33, 34, 36, 37, 38, 39, 42, 43, 44, 46, 47, 48, 49, 50, 51, 52, 53, 54, 55, 56, 57, 58, 59, 60, 61, 62, 63, 66, 67, 68, 69, 70, 71, 72, 73, 74, 75, 76, 77, 78, 79, 80, 81, 82, 83, 84, 85, 86, 87, 88, 89, 90, 91, 92, 93, 94, 95, 96, 97, 98, 99, 100, 101] rfl
  have hDw : va_D (fun q : Nat => s.heap.size ≤ q) (wl g M0) := by
    unfold wl
    rw [hgrid, hg]
    exact hD.sub [0, 2, 4, 12, 17, 22, 26, 35, 40, 41, 45, 65, 1, 64, 3, 5, 6, 7, 8, 9, 10, 11, 13, 14, 15, 16, 18, 19, 20, 21, 23, 24, 25, 27, 28, 29, 30, 31, 32, 33, 34, 36, 37, 38, 39, 42, 43, 44, 46, 47, 48, 49, 50, 51, 52, 53, 54, 55, 56, 57, 58, 59, 60, 61, 62, 63, 66, 67, 68, 69, 70, 71, 72, 73, 74, 75, 76, 77, 78, 79, 80, 81, 82, 83, 84, 85, 86, 87, 88, 89, 90, 91, 92, 93, 94, 95, 96, 97, 98, 99, 100, 101] (by decide +kernel) rfl
  obtain ⟨hJ, hin⟩ := DJ_of hDw
  have hST : ST g (inW g) s s.heap := by
    have en : ∀ q : Nat, inW g q → (fun q : Nat => s.heap.size ≤ q) q := hin
    have f0 : g.2.2.2.1 0 = tA := by rw [hg]; rfl
    have f1 : g.2.2.2.1 1 = tG := by rw [hg]; rfl
    have f2 : g.2.2.2.1 2 = tW := by rw [hg]; rfl
    have f3 : g.2.2.2.2.1 = adK := by rw [hg]
    have f4 : g.2.2.2.2.2 = adV := by rw [hg]
    unfold ST
    rw [f0, f1, f2, f3, f4]
    exact ⟨⟨hZA.narrow en, hTA.narrow en⟩, ⟨hZG.narrow en, hTG.narrow en⟩, ⟨hZW.narrow en, hTW.narrow en⟩, hZC.narrow en, hV.narrow en, ⟨vk_R.of (hts _ sr_0) (hVe 0 (by decide)), vk_R.of (hts _ sr_1) (hVe 1 (by decide)), vk_R.of (hts _ sr_2) (hVe 2 (by decide)), vk_R.of (hts _ sr_3) (hVe 3 (by decide)), vk_R.of (hts _ sr_4) (hVe 4 (by decide))⟩, fun w hw => va_Nw.of (nestW_o w hw) (hts w (nestW_t w hw)), hZQ.narrow en⟩
  have hKg : va_K g.2.1 cls (tysG g) s := by rw [hg]; exact hK
  have hg0 : g.1 0 = q0 := by rw [hg]; rfl
  have hg1 : g.1 11 = q1 := by rw [hg]; rfl
  have hloop := law_loop (l := l) (g := g) (b := b) (L := L) (xs := xs) (cells := 102) (slots := 6873) hL ⟨by decide, by decide⟩ hst (L + 5) 0 M0 (by omega) (by omega) hI0
  rw [hg0, hg1] at hloop
  exact hloop p e s m below meth c H locs ls ⟨hx, hb, hr, hml, hown, hlocks, hgd, hX, hbl, hKg, hJ, hST, hin⟩ hPw hS (lv_sub hl [3, 2, 1, 0] rfl)
