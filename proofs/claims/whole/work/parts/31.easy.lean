/-! THE SMALL CALLS -/
theorem e_X10_isWithin (v lo hi : Int32) (M : Mem) : f_X10_isWithin v lo hi M = some (wi v lo hi, M) := by
  by_cases h1 : v < lo
  · simp only [f_X10_isWithin, jn, wi, h1, if_true, gZ_0]
  · by_cases h2 : hi < v
    · simp only [f_X10_isWithin, jn, wi, h1, h2, if_true, if_false, gZ_0]
    · simp only [f_X10_isWithin, jn, wi, h1, h2, if_false, gZ_1]
theorem e_X11_isIn (v lo hi : Int32) (M : Mem) : f_X11_isIn v lo hi M = some (wi v lo hi, M) := by
  by_cases h1 : v < lo
  · simp only [f_X11_isIn, jn, wi, h1, if_true, gZ_0]
  · by_cases h2 : hi < v
    · simp only [f_X11_isIn, jn, wi, h1, h2, if_true, if_false, gZ_0]
    · simp only [f_X11_isIn, jn, wi, h1, h2, if_false, gZ_1]
theorem e_X1_isKind (v : Int32) (M : Mem) : f_X1_isKind v M = some (wi v 0 3, M) := by
  unfold f_X1_isKind
  rw [e_X10_isWithin, bE_s, gZ_wi]
theorem e_X10_isRater (v : Int32) (M : Mem) : f_X10_isRater v M = some (wi v 0 3, M) := by
  unfold f_X10_isRater
  rw [e_X10_isWithin, bE_s, gZ_wi]
theorem e_X10_isPace (v : Int32) (M : Mem) : f_X10_isPace v M = some (wi v 50 150, M) := by
  unfold f_X10_isPace
  rw [e_X10_isWithin, bE_s, gZ_wi]
theorem e_X10_isWeek (v : Int32) (M : Mem) : f_X10_isWeek v M = some (wi v 0 500, M) := by
  unfold f_X10_isWeek
  rw [e_X10_isWithin, bE_s, gZ_wi]
theorem e_X10_isWorker (v : Int32) (M : Mem) : f_X10_isWorker v M = some (wi v 0 7, M) := by
  unfold f_X10_isWorker
  rw [e_X10_isWithin, bE_s, gZ_wi]
theorem e_X10_isCause (v : Int32) (M : Mem) : f_X10_isCause v M = some (wi v 0 3, M) := by
  unfold f_X10_isCause
  rw [e_X10_isWithin, bE_s, gZ_wi]
theorem e_X11_isPace (v : Int32) (M : Mem) : f_X11_isPace v M = some (wi v 50 150, M) := by
  unfold f_X11_isPace
  rw [e_X11_isIn, bE_s, gZ_wi]
theorem e_X11_isWeek (v : Int32) (M : Mem) : f_X11_isWeek v M = some (wi v 0 500, M) := by
  unfold f_X11_isWeek
  rw [e_X11_isIn, bE_s, gZ_wi]
theorem e_X11_isWorker (v : Int32) (M : Mem) : f_X11_isWorker v M = some (wi v 0 7, M) := by
  unfold f_X11_isWorker
  rw [e_X11_isIn, bE_s, gZ_wi]
theorem e_X11_isElement (v : Int32) (M : Mem) : f_X11_isElement v M = some (hs v (M.1 11 0), M) := by
  by_cases h1 : v < 0
  · simp only [f_X11_isElement, jn, hs, h1, if_true, gZ_0]
  · by_cases h2 : M.1 11 0 ≤ v
    · simp only [f_X11_isElement, jn, hs, h1, h2, if_true, if_false, gZ_0]
    · simp only [f_X11_isElement, jn, hs, h1, h2, if_false, gZ_1]
theorem e_X11_isJob (v : Int32) (M : Mem) : f_X11_isJob v M = some (hs v (M.1 11 12), M) := by
  by_cases h1 : v < 0
  · simp only [f_X11_isJob, jn, hs, h1, if_true, gZ_0]
  · by_cases h2 : M.1 11 12 ≤ v
    · simp only [f_X11_isJob, jn, hs, h1, h2, if_true, if_false, gZ_0]
    · simp only [f_X11_isJob, jn, hs, h1, h2, if_false, gZ_1]
theorem e_X1_has {M : Mem} (hI : Inv M) (v : Int32) : f_X1_has v M = some (hs v (M.1 11 0), M) := by
  obtain ⟨n, hn, e⟩ := hI.e.1
  unfold f_X1_has
  rw [e_X10_isWithin, bE_s, gZ_wi, hI.rel.many, e, hs_wi (by omega)]
theorem e_X2_has {M : Mem} (hI : Inv M) (v : Int32) : f_X2_has v M = some (hs v (M.1 11 12), M) := by
  obtain ⟨n, hn, e, -⟩ := hI.j
  unfold f_X2_has
  rw [e_X10_isWithin, bE_s, gZ_wi, hI.rel.jobs, e, hs_wi (by omega)]
theorem e_X1_isFull (M : Mem) : f_X1_isFull M = some (if M.1 1 1 < 12 then 0 else 1, M) := by
  by_cases h1 : M.1 1 1 < 12
  · simp only [f_X1_isFull, jn, h1, if_true, gZ_0]
  · simp only [f_X1_isFull, jn, h1, if_false, gZ_1]
theorem e_X8_isFullOfFilms (M : Mem) : f_X8_isFullOfFilms M = some (if M.1 2 3 < 20 then 0 else 1, M) := by
  by_cases h1 : M.1 2 3 < 20
  · simp only [f_X8_isFullOfFilms, jn, h1, if_true, gZ_0]
  · simp only [f_X8_isFullOfFilms, jn, h1, if_false, gZ_1]
theorem e_X8_isFullOfCycles (M : Mem) : f_X8_isFullOfCycles M = some (if M.1 2 8 < 60 then 0 else 1, M) := by
  by_cases h1 : M.1 2 8 < 60
  · simp only [f_X8_isFullOfCycles, jn, h1, if_true, gZ_0]
  · simp only [f_X8_isFullOfCycles, jn, h1, if_false, gZ_1]
theorem e_X2_isFull (M : Mem) : f_X2_isFull M = some (if M.1 3 4 < 8 then 0 else 1, M) := by
  by_cases h1 : M.1 3 4 < 8
  · simp only [f_X2_isFull, jn, h1, if_true, gZ_0]
  · simp only [f_X2_isFull, jn, h1, if_false, gZ_1]
theorem e_X4_isFull (M : Mem) : f_X4_isFull M = some (if M.1 4 6 < 40 then 0 else 1, M) := by
  by_cases h1 : M.1 4 6 < 40
  · simp only [f_X4_isFull, jn, h1, if_true, gZ_0]
  · simp only [f_X4_isFull, jn, h1, if_false, gZ_1]
theorem e_X5_isFullOfBytes (M : Mem) : f_X5_isFullOfBytes M = some (if M.1 5 3 < 60 then 0 else 1, M) := by
  by_cases h1 : M.1 5 3 < 60
  · simp only [f_X5_isFullOfBytes, jn, h1, if_true, gZ_0]
  · simp only [f_X5_isFullOfBytes, jn, h1, if_false, gZ_1]
theorem e_X9_isFull (M : Mem) : f_X9_isFull M = some (if M.1 6 10 < 100 then 0 else 1, M) := by
  by_cases h1 : M.1 6 10 < 100
  · simp only [f_X9_isFull, jn, h1, if_true, gZ_0]
  · simp only [f_X9_isFull, jn, h1, if_false, gZ_1]
theorem e_X7_isFull (M : Mem) : f_X7_isFull M = some (if M.1 7 4 < 60 then 0 else 1, M) := by
  by_cases h1 : M.1 7 4 < 60
  · simp only [f_X7_isFull, jn, h1, if_true, gZ_0]
  · simp only [f_X7_isFull, jn, h1, if_false, gZ_1]
theorem e_X1_many (M : Mem) : f_X1_many M = some (M.1 1 1, M) := rfl
theorem e_X8_cycleMany (M : Mem) : f_X8_cycleMany M = some (M.1 2 8, M) := rfl
theorem e_X8_filmMany (M : Mem) : f_X8_filmMany M = some (M.1 2 3, M) := rfl
theorem e_X2_many (M : Mem) : f_X2_many M = some (M.1 3 4, M) := rfl
theorem e_X4_many (M : Mem) : f_X4_many M = some (M.1 4 6, M) := rfl
theorem e_X9_many (M : Mem) : f_X9_many M = some (M.1 6 10, M) := rfl
theorem e_X7_many (M : Mem) : f_X7_many M = some (M.1 7 4, M) := rfl
theorem e_X5_byteMany (M : Mem) : f_X5_byteMany M = some (M.1 5 3, M) := rfl
def fdC (M : Mem) (k : Nat) : Mem := up2 M 12 k (M.1 12 k + 1)
def fdM (M : Mem) (k : Nat) : Mem := up2 M 95 k (M.1 95 k + 1)
def fdv (k : Nat) : Int32 := -1000000000 - nI k
theorem e_fdC {k : Nat} (hk : k < 6) (M : Mem) : f_X10_finding (nI k) M = some (fdv k, fdC M k) := by
  unfold f_X10_finding bM
  rw [gV_nI hk (by decide), gV_nI hk (by decide), nI_clamp (by omega)]
  rfl
theorem e_fdM {k : Nat} (hk : k < 6) (M : Mem) : f_X11_finding (nI k) M = some (fdv k, fdM M k) := by
  unfold f_X11_finding bM
  rw [gV_nI hk (by decide), gV_nI hk (by decide), nI_clamp (by omega)]
  rfl
theorem e_fdC1 (M : Mem) : f_X10_finding 1 M = some (fdv 1, fdC M 1) := e_fdC (k := 1) (by decide) M
theorem e_fdM1 (M : Mem) : f_X11_finding 1 M = some (fdv 1, fdM M 1) := e_fdM (k := 1) (by decide) M
theorem e_fdC2 (M : Mem) : f_X10_finding 2 M = some (fdv 2, fdC M 2) := e_fdC (k := 2) (by decide) M
theorem e_fdM2 (M : Mem) : f_X11_finding 2 M = some (fdv 2, fdM M 2) := e_fdM (k := 2) (by decide) M
theorem e_fdC3 (M : Mem) : f_X10_finding 3 M = some (fdv 3, fdC M 3) := e_fdC (k := 3) (by decide) M
theorem e_fdM3 (M : Mem) : f_X11_finding 3 M = some (fdv 3, fdM M 3) := e_fdM (k := 3) (by decide) M
theorem e_fdC4 (M : Mem) : f_X10_finding 4 M = some (fdv 4, fdC M 4) := e_fdC (k := 4) (by decide) M
theorem e_fdM4 (M : Mem) : f_X11_finding 4 M = some (fdv 4, fdM M 4) := e_fdM (k := 4) (by decide) M
theorem e_fdC5 (M : Mem) : f_X10_finding 5 M = some (fdv 5, fdC M 5) := e_fdC (k := 5) (by decide) M
theorem e_fdM5 (M : Mem) : f_X11_finding 5 M = some (fdv 5, fdM M 5) := e_fdM (k := 5) (by decide) M
theorem inv_fd {M : Mem} (hI : Inv M) (k : Nat) : Inv (fdM (fdC M k) k) := ⟨⟨hI.rel.many, hI.rel.base, hI.rel.more, hI.rel.kinds, hI.rel.films, hI.rel.cycles, hI.rel.cOf, hI.rel.cBy, hI.rel.cPace, hI.rel.cTime, hI.rel.jobs, hI.rel.parts, hI.rel.pOf, hI.rel.often, hI.rel.rates, hI.rel.rOf, hI.rel.rFrom, hI.rel.worth, hI.rel.taped, hI.rel.rules, hI.rel.tape, hI.rel.rows, hI.rel.wWeek, hI.rel.wWorker, hI.rel.wJob, hI.rel.wGood, hI.rel.wSpoilt, hI.rel.wMin, hI.rel.wWat, hI.rel.began, hI.rel.waits, hI.rel.aWeek, hI.rel.aWorker, hI.rel.aMin, hI.rel.nums, hI.rel.num, hI.rel.week, (by show upd (M.1 12) k (M.1 12 k + 1) = upd (M.1 95) k (M.1 95 k + 1); rw [hI.rel.found])⟩, hI.e, hI.f, hI.c, hI.j, hI.r, hI.m, hI.u, hI.t, hI.w, hI.a, hI.b, hI.n⟩
theorem fdC_at {M : Mem} {k q : Nat} (h : q ≠ 12) : (fdC M k).1 q = M.1 q := if_neg h
theorem one_ne0 : ¬ (1 : Int32) = 0 := by decide
theorem upd_all {P : Int32 → Prop} {f : Nat → Int32} {n : Nat} {x : Int32} (h : ∀ j, P (f j)) (hx : P x) : ∀ j, P (upd f n x j) := by
  intro j
  unfold upd
  split
  · exact hx
  · exact h j
theorem i_add1 (x : Int32) : x + 1 - 1 = x := by
  rw [Int32.add_sub_cancel]

theorem st_element {M : Mem} (hI : Inv M) (v1 : Int32) : ∃ (r : Int32) (M1 M2 : Mem), f_X10_element v1 M = some (r, M1) ∧ f_X11_element v1 M1 = some (r, M2) ∧ Inv M2 := by
  obtain ⟨n, hn, e⟩ := hI.e.1
  have em : M.1 1 1 = nI n := hI.rel.many.trans e
  by_cases h1 : wi v1 0 3 = 0
  · exact ⟨fdv 1, fdC M 1, fdM (fdC M 1) 1, by simp only [f_X10_element, e_X10_isWithin, e_X11_isIn, e_X1_isKind, e_X10_isRater, e_X10_isPace, e_X10_isWeek, e_X10_isWorker, e_X10_isCause, e_X11_isPace, e_X11_isWeek, e_X11_isWorker, e_X11_isElement, e_X11_isJob, bE_s, bI, bM, jn, one_ne0, e_fdC1, e_fdM1, e_fdC2, e_fdM2, e_fdC3, e_fdM3, e_fdC4, e_fdM4, e_fdC5, e_fdM5, h1, if_true, if_false], by simp only [f_X11_element, e_X10_isWithin, e_X11_isIn, e_X1_isKind, e_X10_isRater, e_X10_isPace, e_X10_isWeek, e_X10_isWorker, e_X10_isCause, e_X11_isPace, e_X11_isWeek, e_X11_isWorker, e_X11_isElement, e_X11_isJob, bE_s, bI, bM, jn, one_ne0, e_fdC1, e_fdM1, e_fdC2, e_fdM2, e_fdC3, e_fdM3, e_fdC4, e_fdM4, e_fdC5, e_fdM5, h1, fdC_at (show (11 : Nat) ≠ 12 by decide), if_true, if_false], inv_fd hI 1⟩
  by_cases h2 : n = 12
  · subst h2
    exact ⟨fdv 4, fdC M 4, fdM (fdC M 4) 4, by simp only [f_X10_element, e_X10_isWithin, e_X11_isIn, e_X1_isKind, e_X10_isRater, e_X10_isPace, e_X10_isWeek, e_X10_isWorker, e_X10_isCause, e_X11_isPace, e_X11_isWeek, e_X11_isWorker, e_X11_isElement, e_X11_isJob, bE_s, bI, bM, jn, one_ne0, e_fdC1, e_fdM1, e_fdC2, e_fdM2, e_fdC3, e_fdM3, e_fdC4, e_fdM4, e_fdC5, e_fdM5, h1, e_X1_isFull, em, show ¬ nI 12 < 12 by decide, if_true, if_false], by simp only [f_X11_element, e_X10_isWithin, e_X11_isIn, e_X1_isKind, e_X10_isRater, e_X10_isPace, e_X10_isWeek, e_X10_isWorker, e_X10_isCause, e_X11_isPace, e_X11_isWeek, e_X11_isWorker, e_X11_isElement, e_X11_isJob, bE_s, bI, bM, jn, one_ne0, e_fdC1, e_fdM1, e_fdC2, e_fdM2, e_fdC3, e_fdM3, e_fdC4, e_fdM4, e_fdC5, e_fdM5, h1, e, show nI 12 = 12 from rfl, fdC_at (show (11 : Nat) ≠ 12 by decide), if_true, if_false], inv_fd hI 4⟩
  have hlt : nI n < 12 := nI_lt (b := 12) (by omega) (by decide)
  have hne : ¬ nI n = 12 := fun q => h2 ((nI_eq (b := 12) (by omega) (by decide)).mp q)
  obtain ⟨kk, -, hk3, rfl⟩ := wi_nat (lo := 0) (hi := 3) (by decide) (by decide) h1
  refine ⟨nI n, up2 (up2 M 14 n (nI kk)) 1 1 (nI n + 1), up2 (up2 (up2 (up2 M 14 n (nI kk)) 1 1 (nI n + 1)) 66 n (nI kk)) 11 0 (nI n + 1), ?_, ?_, ?_⟩
  · simp only [f_X10_element, f_X1_add, e_X1_isFull, e_X10_isWithin, e_X11_isIn, e_X1_isKind, e_X10_isRater, e_X10_isPace, e_X10_isWeek, e_X10_isWorker, e_X10_isCause, e_X11_isPace, e_X11_isWeek, e_X11_isWorker, e_X11_isElement, e_X11_isJob, bE_s, bI, bM, jn, one_ne0, e_fdC1, e_fdM1, e_fdC2, e_fdM2, e_fdC3, e_fdM3, e_fdC4, e_fdM4, e_fdC5, e_fdM5, h1, if_false, em, hlt, if_true, gV_nI (show n < 12 by omega) (by decide), nI_clamp (show n < 2 ^ 31 by omega)]
    show some (M.1 1 1 + 1 - 1, up2 (up2 M 14 n (nI kk)) 1 1 (M.1 1 1 + 1)) = _
    rw [em, i_add1]
  · simp only [f_X11_element, e_X10_isWithin, e_X11_isIn, e_X1_isKind, e_X10_isRater, e_X10_isPace, e_X10_isWeek, e_X10_isWorker, e_X10_isCause, e_X11_isPace, e_X11_isWeek, e_X11_isWorker, e_X11_isElement, e_X11_isJob, bE_s, bI, bM, jn, one_ne0, e_fdC1, e_fdM1, e_fdC2, e_fdM2, e_fdC3, e_fdM3, e_fdC4, e_fdM4, e_fdC5, e_fdM5, h1, if_false]
    show (if M.1 11 0 = 12 then _ else gV (M.1 11 0) 12 (some (M.1 11 0 + 1 - 1, up2 (up2 _ 66 (M.1 11 0).toNatClampNeg (nI kk)) 11 0 (M.1 11 0 + 1)))) = _
    rw [e, if_neg hne, gV_nI (by omega) (by decide), nI_clamp (by omega), i_add1]
  · exact ⟨⟨rfl, hI.rel.base, hI.rel.more, (by show upd (M.1 14) n (nI kk) = upd (M.1 66) n (nI kk); rw [hI.rel.kinds]), hI.rel.films, hI.rel.cycles, hI.rel.cOf, hI.rel.cBy, hI.rel.cPace, hI.rel.cTime, hI.rel.jobs, hI.rel.parts, hI.rel.pOf, hI.rel.often, hI.rel.rates, hI.rel.rOf, hI.rel.rFrom, hI.rel.worth, hI.rel.taped, hI.rel.rules, hI.rel.tape, hI.rel.rows, hI.rel.wWeek, hI.rel.wWorker, hI.rel.wJob, hI.rel.wGood, hI.rel.wSpoilt, hI.rel.wMin, hI.rel.wWat, hI.rel.began, hI.rel.waits, hI.rel.aWeek, hI.rel.aWorker, hI.rel.aMin, hI.rel.nums, hI.rel.num, hI.rel.week, hI.rel.found⟩, ⟨⟨n + 1, by omega, nI_1 n⟩, upd_all hI.e.2.1 ⟨kk, hk3, rfl⟩, hI.e.2.2.1, hI.e.2.2.2⟩, hI.f, hI.c, hI.j, hI.r, hI.m, hI.u, hI.t, hI.w, hI.a, hI.b, hI.n⟩
theorem st_allow {M : Mem} (hI : Inv M) (v1 v2 : Int32) : ∃ (r : Int32) (M1 M2 : Mem), f_X10_allow v1 v2 M = some (r, M1) ∧ f_X11_allow v1 v2 M1 = some (r, M2) ∧ Inv M2 := by
  by_cases h1 : wi v1 0 50 = 0
  · exact ⟨fdv 1, fdC M 1, fdM (fdC M 1) 1, by simp only [f_X10_allow, e_X10_isWithin, e_X11_isIn, e_X1_isKind, e_X10_isRater, e_X10_isPace, e_X10_isWeek, e_X10_isWorker, e_X10_isCause, e_X11_isPace, e_X11_isWeek, e_X11_isWorker, e_X11_isElement, e_X11_isJob, bE_s, bI, bM, jn, one_ne0, e_fdC1, e_fdM1, e_fdC2, e_fdM2, e_fdC3, e_fdM3, e_fdC4, e_fdM4, e_fdC5, e_fdM5, h1, if_true, if_false], by simp only [f_X11_allow, e_X10_isWithin, e_X11_isIn, e_X1_isKind, e_X10_isRater, e_X10_isPace, e_X10_isWeek, e_X10_isWorker, e_X10_isCause, e_X11_isPace, e_X11_isWeek, e_X11_isWorker, e_X11_isElement, e_X11_isJob, bE_s, bI, bM, jn, one_ne0, e_fdC1, e_fdM1, e_fdC2, e_fdM2, e_fdC3, e_fdM3, e_fdC4, e_fdM4, e_fdC5, e_fdM5, h1, fdC_at (show (11 : Nat) ≠ 12 by decide), if_true, if_false], inv_fd hI 1⟩
  by_cases h2 : wi v2 0 50 = 0
  · exact ⟨fdv 1, fdC M 1, fdM (fdC M 1) 1, by simp only [f_X10_allow, e_X10_isWithin, e_X11_isIn, e_X1_isKind, e_X10_isRater, e_X10_isPace, e_X10_isWeek, e_X10_isWorker, e_X10_isCause, e_X11_isPace, e_X11_isWeek, e_X11_isWorker, e_X11_isElement, e_X11_isJob, bE_s, bI, bM, jn, one_ne0, e_fdC1, e_fdM1, e_fdC2, e_fdM2, e_fdC3, e_fdM3, e_fdC4, e_fdM4, e_fdC5, e_fdM5, h1, h2, if_true, if_false], by simp only [f_X11_allow, e_X10_isWithin, e_X11_isIn, e_X1_isKind, e_X10_isRater, e_X10_isPace, e_X10_isWeek, e_X10_isWorker, e_X10_isCause, e_X11_isPace, e_X11_isWeek, e_X11_isWorker, e_X11_isElement, e_X11_isJob, bE_s, bI, bM, jn, one_ne0, e_fdC1, e_fdM1, e_fdC2, e_fdM2, e_fdC3, e_fdM3, e_fdC4, e_fdM4, e_fdC5, e_fdM5, h1, h2, fdC_at (show (11 : Nat) ≠ 12 by decide), if_true, if_false], inv_fd hI 1⟩
  obtain ⟨x, -, hx, rfl⟩ := wi_nat (lo := 0) (hi := 50) (by decide) (by decide) h1
  obtain ⟨y, -, hy, rfl⟩ := wi_nat (lo := 0) (hi := 50) (by decide) (by decide) h2
  refine ⟨1, up2 (up2 M 1 2 (nI x)) 1 3 (nI y), up2 (up2 (up2 (up2 M 1 2 (nI x)) 1 3 (nI y)) 11 2 (nI x)) 11 3 (nI y), ?_, ?_, ?_⟩
  · simp only [f_X10_allow, f_X1_setAllowances, e_X10_isWithin, e_X11_isIn, e_X1_isKind, e_X10_isRater, e_X10_isPace, e_X10_isWeek, e_X10_isWorker, e_X10_isCause, e_X11_isPace, e_X11_isWeek, e_X11_isWorker, e_X11_isElement, e_X11_isJob, bE_s, bI, bM, jn, one_ne0, e_fdC1, e_fdM1, e_fdC2, e_fdM2, e_fdC3, e_fdM3, e_fdC4, e_fdM4, e_fdC5, e_fdM5, h1, h2, if_false]
  · simp only [f_X11_allow, e_X10_isWithin, e_X11_isIn, e_X1_isKind, e_X10_isRater, e_X10_isPace, e_X10_isWeek, e_X10_isWorker, e_X10_isCause, e_X11_isPace, e_X11_isWeek, e_X11_isWorker, e_X11_isElement, e_X11_isJob, bE_s, bI, bM, jn, one_ne0, e_fdC1, e_fdM1, e_fdC2, e_fdM2, e_fdC3, e_fdM3, e_fdC4, e_fdM4, e_fdC5, e_fdM5, h1, h2, if_false]
  · exact ⟨⟨hI.rel.many, rfl, rfl, hI.rel.kinds, hI.rel.films, hI.rel.cycles, hI.rel.cOf, hI.rel.cBy, hI.rel.cPace, hI.rel.cTime, hI.rel.jobs, hI.rel.parts, hI.rel.pOf, hI.rel.often, hI.rel.rates, hI.rel.rOf, hI.rel.rFrom, hI.rel.worth, hI.rel.taped, hI.rel.rules, hI.rel.tape, hI.rel.rows, hI.rel.wWeek, hI.rel.wWorker, hI.rel.wJob, hI.rel.wGood, hI.rel.wSpoilt, hI.rel.wMin, hI.rel.wWat, hI.rel.began, hI.rel.waits, hI.rel.aWeek, hI.rel.aWorker, hI.rel.aMin, hI.rel.nums, hI.rel.num, hI.rel.week, hI.rel.found⟩, ⟨hI.e.1, hI.e.2.1, ⟨x, hx, rfl⟩, ⟨y, hy, rfl⟩⟩, hI.f, hI.c, hI.j, hI.r, hI.m, hI.u, hI.t, hI.w, hI.a, hI.b, hI.n⟩
theorem st_job {M : Mem} (hI : Inv M) : ∃ (r : Int32) (M1 M2 : Mem), f_X10_job  M = some (r, M1) ∧ f_X11_job  M1 = some (r, M2) ∧ Inv M2 := by
  obtain ⟨n, hn, e, hp⟩ := hI.j
  have em : M.1 3 4 = nI n := hI.rel.jobs.trans e
  by_cases h2 : n = 8
  · subst h2
    exact ⟨fdv 4, fdC M 4, fdM (fdC M 4) 4, by simp only [f_X10_job, e_X10_isWithin, e_X11_isIn, e_X1_isKind, e_X10_isRater, e_X10_isPace, e_X10_isWeek, e_X10_isWorker, e_X10_isCause, e_X11_isPace, e_X11_isWeek, e_X11_isWorker, e_X11_isElement, e_X11_isJob, bE_s, bI, bM, jn, one_ne0, e_fdC1, e_fdM1, e_fdC2, e_fdM2, e_fdC3, e_fdM3, e_fdC4, e_fdM4, e_fdC5, e_fdM5, e_X2_isFull, em, show ¬ nI 8 < 8 by decide, if_true, if_false], by simp only [f_X11_job, e_X10_isWithin, e_X11_isIn, e_X1_isKind, e_X10_isRater, e_X10_isPace, e_X10_isWeek, e_X10_isWorker, e_X10_isCause, e_X11_isPace, e_X11_isWeek, e_X11_isWorker, e_X11_isElement, e_X11_isJob, bE_s, bI, bM, jn, one_ne0, e_fdC1, e_fdM1, e_fdC2, e_fdM2, e_fdC3, e_fdM3, e_fdC4, e_fdM4, e_fdC5, e_fdM5, e, show nI 8 = 8 from rfl, fdC_at (show (11 : Nat) ≠ 12 by decide), if_true, if_false], inv_fd hI 4⟩
  have hlt : nI n < 8 := nI_lt (b := 8) (by omega) (by decide)
  have hne : ¬ nI n = 8 := fun q => h2 ((nI_eq (b := 8) (by omega) (by decide)).mp q)
  refine ⟨nI n, up2 M 3 4 (nI n + 1), up2 (up2 M 3 4 (nI n + 1)) 11 12 (nI n + 1), ?_, ?_, ?_⟩
  · simp only [f_X10_job, f_X2_add, e_X2_isFull, e_X10_isWithin, e_X11_isIn, e_X1_isKind, e_X10_isRater, e_X10_isPace, e_X10_isWeek, e_X10_isWorker, e_X10_isCause, e_X11_isPace, e_X11_isWeek, e_X11_isWorker, e_X11_isElement, e_X11_isJob, bE_s, bI, bM, jn, one_ne0, e_fdC1, e_fdM1, e_fdC2, e_fdM2, e_fdC3, e_fdM3, e_fdC4, e_fdM4, e_fdC5, e_fdM5, if_false, em, hlt, if_true]
    show some (nI n + 1 - 1, up2 M 3 4 (nI n + 1)) = _
    rw [i_add1]
  · simp only [f_X11_job, e_X10_isWithin, e_X11_isIn, e_X1_isKind, e_X10_isRater, e_X10_isPace, e_X10_isWeek, e_X10_isWorker, e_X10_isCause, e_X11_isPace, e_X11_isWeek, e_X11_isWorker, e_X11_isElement, e_X11_isJob, bE_s, bI, bM, jn, one_ne0, e_fdC1, e_fdM1, e_fdC2, e_fdM2, e_fdC3, e_fdM3, e_fdC4, e_fdM4, e_fdC5, e_fdM5]
    show (if M.1 11 12 = 8 then _ else some (M.1 11 12 + 1 - 1, up2 _ 11 12 (M.1 11 12 + 1))) = _
    rw [e, if_neg hne, i_add1]
  · exact ⟨⟨hI.rel.many, hI.rel.base, hI.rel.more, hI.rel.kinds, hI.rel.films, hI.rel.cycles, hI.rel.cOf, hI.rel.cBy, hI.rel.cPace, hI.rel.cTime, rfl, hI.rel.parts, hI.rel.pOf, hI.rel.often, hI.rel.rates, hI.rel.rOf, hI.rel.rFrom, hI.rel.worth, hI.rel.taped, hI.rel.rules, hI.rel.tape, hI.rel.rows, hI.rel.wWeek, hI.rel.wWorker, hI.rel.wJob, hI.rel.wGood, hI.rel.wSpoilt, hI.rel.wMin, hI.rel.wWat, hI.rel.began, hI.rel.waits, hI.rel.aWeek, hI.rel.aWorker, hI.rel.aMin, hI.rel.nums, hI.rel.num, hI.rel.week, hI.rel.found⟩, hI.e, hI.f, hI.c, ⟨n + 1, by omega, nI_1 n, fun j hj => by obtain ⟨p, h1, h2, h3, h4⟩ := hp j hj; exact ⟨p, h1, h2, fun q => h3 (by omega), h4⟩⟩, hI.r, hI.m, hI.u, hI.t, hI.w, hI.a, hI.b, hI.n⟩
theorem st_week {M : Mem} (hI : Inv M) (v1 : Int32) : ∃ (r : Int32) (M1 M2 : Mem), f_X10_week v1 M = some (r, M1) ∧ f_X11_week v1 M1 = some (r, M2) ∧ Inv M2 := by
  obtain ⟨w, hw, e⟩ := hI.n.2
  have em : M.1 0 13 = nI w := hI.rel.week.trans e
  by_cases h1 : wi v1 (nI w) 500 = 0
  · exact ⟨fdv 1, fdC M 1, fdM (fdC M 1) 1, by simp only [f_X10_week, e_X10_isWithin, e_X11_isIn, e_X1_isKind, e_X10_isRater, e_X10_isPace, e_X10_isWeek, e_X10_isWorker, e_X10_isCause, e_X11_isPace, e_X11_isWeek, e_X11_isWorker, e_X11_isElement, e_X11_isJob, bE_s, bI, bM, jn, one_ne0, e_fdC1, e_fdM1, e_fdC2, e_fdM2, e_fdC3, e_fdM3, e_fdC4, e_fdM4, e_fdC5, e_fdM5, em, h1, if_true, if_false], by simp only [f_X11_week, e_X10_isWithin, e_X11_isIn, e_X1_isKind, e_X10_isRater, e_X10_isPace, e_X10_isWeek, e_X10_isWorker, e_X10_isCause, e_X11_isPace, e_X11_isWeek, e_X11_isWorker, e_X11_isElement, e_X11_isJob, bE_s, bI, bM, jn, one_ne0, e_fdC1, e_fdM1, e_fdC2, e_fdM2, e_fdC3, e_fdM3, e_fdC4, e_fdM4, e_fdC5, e_fdM5, e, h1, fdC_at (show (11 : Nat) ≠ 12 by decide), if_true, if_false], inv_fd hI 1⟩
  obtain ⟨x, -, hx, rfl⟩ := wi_nat (lo := w) (hi := 500) (by decide) (by omega) h1
  refine ⟨nI x - nI w, up2 M 0 13 (nI x), up2 (up2 M 0 13 (nI x)) 11 21 (nI x), ?_, ?_, ?_⟩
  · simp only [f_X10_week, e_X10_isWithin, e_X11_isIn, e_X1_isKind, e_X10_isRater, e_X10_isPace, e_X10_isWeek, e_X10_isWorker, e_X10_isCause, e_X11_isPace, e_X11_isWeek, e_X11_isWorker, e_X11_isElement, e_X11_isJob, bE_s, bI, bM, jn, one_ne0, e_fdC1, e_fdM1, e_fdC2, e_fdM2, e_fdC3, e_fdM3, e_fdC4, e_fdM4, e_fdC5, e_fdM5, em, h1, if_false]
  · simp only [f_X11_week, e_X10_isWithin, e_X11_isIn, e_X1_isKind, e_X10_isRater, e_X10_isPace, e_X10_isWeek, e_X10_isWorker, e_X10_isCause, e_X11_isPace, e_X11_isWeek, e_X11_isWorker, e_X11_isElement, e_X11_isJob, bE_s, bI, bM, jn, one_ne0, e_fdC1, e_fdM1, e_fdC2, e_fdM2, e_fdC3, e_fdM3, e_fdC4, e_fdM4, e_fdC5, e_fdM5]
    show (if wi (nI x) (M.1 11 21) 500 = 0 then _ else some (nI x - M.1 11 21, _)) = _
    rw [e, if_neg h1]
  · exact ⟨⟨hI.rel.many, hI.rel.base, hI.rel.more, hI.rel.kinds, hI.rel.films, hI.rel.cycles, hI.rel.cOf, hI.rel.cBy, hI.rel.cPace, hI.rel.cTime, hI.rel.jobs, hI.rel.parts, hI.rel.pOf, hI.rel.often, hI.rel.rates, hI.rel.rOf, hI.rel.rFrom, hI.rel.worth, hI.rel.taped, hI.rel.rules, hI.rel.tape, hI.rel.rows, hI.rel.wWeek, hI.rel.wWorker, hI.rel.wJob, hI.rel.wGood, hI.rel.wSpoilt, hI.rel.wMin, hI.rel.wWat, hI.rel.began, hI.rel.waits, hI.rel.aWeek, hI.rel.aWorker, hI.rel.aMin, hI.rel.nums, hI.rel.num, rfl, hI.rel.found⟩, hI.e, hI.f, hI.c, hI.j, hI.r, hI.m, hI.u, hI.t, hI.w, hI.a, hI.b, ⟨hI.n.1, ⟨x, hx, rfl⟩⟩⟩
theorem st_feed {M : Mem} (hI : Inv M) (v1 : Int32) : ∃ (r : Int32) (M1 M2 : Mem), f_X10_feed v1 M = some (r, M1) ∧ f_X11_feed v1 M1 = some (r, M2) ∧ Inv M2 := by
  obtain ⟨n, hn, e⟩ := hI.t.1
  have em : M.1 5 3 = nI n := hI.rel.taped.trans e
  by_cases h1 : wi v1 0 255 = 0
  · exact ⟨fdv 1, fdC M 1, fdM (fdC M 1) 1, by simp only [f_X10_feed, e_X10_isWithin, e_X11_isIn, e_X1_isKind, e_X10_isRater, e_X10_isPace, e_X10_isWeek, e_X10_isWorker, e_X10_isCause, e_X11_isPace, e_X11_isWeek, e_X11_isWorker, e_X11_isElement, e_X11_isJob, bE_s, bI, bM, jn, one_ne0, e_fdC1, e_fdM1, e_fdC2, e_fdM2, e_fdC3, e_fdM3, e_fdC4, e_fdM4, e_fdC5, e_fdM5, h1, if_true, if_false], by simp only [f_X11_feed, e_X10_isWithin, e_X11_isIn, e_X1_isKind, e_X10_isRater, e_X10_isPace, e_X10_isWeek, e_X10_isWorker, e_X10_isCause, e_X11_isPace, e_X11_isWeek, e_X11_isWorker, e_X11_isElement, e_X11_isJob, bE_s, bI, bM, jn, one_ne0, e_fdC1, e_fdM1, e_fdC2, e_fdM2, e_fdC3, e_fdM3, e_fdC4, e_fdM4, e_fdC5, e_fdM5, h1, fdC_at (show (11 : Nat) ≠ 12 by decide), if_true, if_false], inv_fd hI 1⟩
  by_cases h2 : n = 60
  · subst h2
    exact ⟨fdv 4, fdC M 4, fdM (fdC M 4) 4, by simp only [f_X10_feed, e_X10_isWithin, e_X11_isIn, e_X1_isKind, e_X10_isRater, e_X10_isPace, e_X10_isWeek, e_X10_isWorker, e_X10_isCause, e_X11_isPace, e_X11_isWeek, e_X11_isWorker, e_X11_isElement, e_X11_isJob, bE_s, bI, bM, jn, one_ne0, e_fdC1, e_fdM1, e_fdC2, e_fdM2, e_fdC3, e_fdM3, e_fdC4, e_fdM4, e_fdC5, e_fdM5, h1, e_X5_isFullOfBytes, em, show ¬ nI 60 < 60 by decide, if_true, if_false], by simp only [f_X11_feed, e_X10_isWithin, e_X11_isIn, e_X1_isKind, e_X10_isRater, e_X10_isPace, e_X10_isWeek, e_X10_isWorker, e_X10_isCause, e_X11_isPace, e_X11_isWeek, e_X11_isWorker, e_X11_isElement, e_X11_isJob, bE_s, bI, bM, jn, one_ne0, e_fdC1, e_fdM1, e_fdC2, e_fdM2, e_fdC3, e_fdM3, e_fdC4, e_fdM4, e_fdC5, e_fdM5, h1, e, show nI 60 = 60 from rfl, fdC_at (show (11 : Nat) ≠ 12 by decide), if_true, if_false], inv_fd hI 4⟩
  have hlt : nI n < 60 := nI_lt (b := 60) (by omega) (by decide)
  have hne : ¬ nI n = 60 := fun q => h2 ((nI_eq (b := 60) (by omega) (by decide)).mp q)
  obtain ⟨kk, -, hk3, rfl⟩ := wi_nat (lo := 0) (hi := 255) (by decide) (by decide) h1
  refine ⟨nI n + 1, up2 (up2 M 32 n (nI kk)) 5 3 (nI n + 1), up2 (up2 (up2 (up2 M 32 n (nI kk)) 5 3 (nI n + 1)) 81 n (nI kk)) 11 24 (nI n + 1), ?_, ?_, ?_⟩
  · simp only [f_X10_feed, f_X5_addByte, e_X5_isFullOfBytes, e_X10_isWithin, e_X11_isIn, e_X1_isKind, e_X10_isRater, e_X10_isPace, e_X10_isWeek, e_X10_isWorker, e_X10_isCause, e_X11_isPace, e_X11_isWeek, e_X11_isWorker, e_X11_isElement, e_X11_isJob, bE_s, bI, bM, jn, one_ne0, e_fdC1, e_fdM1, e_fdC2, e_fdM2, e_fdC3, e_fdM3, e_fdC4, e_fdM4, e_fdC5, e_fdM5, h1, if_false, em, hlt, if_true, gV_nI (show n < 60 by omega) (by decide), nI_clamp (show n < 2 ^ 31 by omega)]
    show some (M.1 5 3 + 1, up2 (up2 M 32 n (nI kk)) 5 3 (M.1 5 3 + 1)) = _
    rw [em]
  · simp only [f_X11_feed, e_X10_isWithin, e_X11_isIn, e_X1_isKind, e_X10_isRater, e_X10_isPace, e_X10_isWeek, e_X10_isWorker, e_X10_isCause, e_X11_isPace, e_X11_isWeek, e_X11_isWorker, e_X11_isElement, e_X11_isJob, bE_s, bI, bM, jn, one_ne0, e_fdC1, e_fdM1, e_fdC2, e_fdM2, e_fdC3, e_fdM3, e_fdC4, e_fdM4, e_fdC5, e_fdM5, h1, if_false]
    show (if M.1 11 24 = 60 then _ else gV (M.1 11 24) 60 (some (M.1 11 24 + 1, up2 (up2 _ 81 (M.1 11 24).toNatClampNeg (nI kk)) 11 24 (M.1 11 24 + 1)))) = _
    rw [e, if_neg hne, gV_nI (by omega) (by decide), nI_clamp (by omega)]
  · exact ⟨⟨hI.rel.many, hI.rel.base, hI.rel.more, hI.rel.kinds, hI.rel.films, hI.rel.cycles, hI.rel.cOf, hI.rel.cBy, hI.rel.cPace, hI.rel.cTime, hI.rel.jobs, hI.rel.parts, hI.rel.pOf, hI.rel.often, hI.rel.rates, hI.rel.rOf, hI.rel.rFrom, hI.rel.worth, rfl, hI.rel.rules, (by show upd (M.1 32) n (nI kk) = upd (M.1 81) n (nI kk); rw [hI.rel.tape]), hI.rel.rows, hI.rel.wWeek, hI.rel.wWorker, hI.rel.wJob, hI.rel.wGood, hI.rel.wSpoilt, hI.rel.wMin, hI.rel.wWat, hI.rel.began, hI.rel.waits, hI.rel.aWeek, hI.rel.aWorker, hI.rel.aMin, hI.rel.nums, hI.rel.num, hI.rel.week, hI.rel.found⟩, hI.e, hI.f, hI.c, hI.j, hI.r, hI.m, hI.u, ⟨⟨n + 1, by omega, nI_1 n⟩, upd_all hI.t.2 ⟨kk, hk3, rfl⟩⟩, hI.w, hI.a, hI.b, hI.n⟩
theorem st_rule {M : Mem} (hI : Inv M) (v1 : Int32) : ∃ (r : Int32) (M1 M2 : Mem), f_X10_rule v1 M = some (r, M1) ∧ f_X11_rule v1 M1 = some (r, M2) ∧ Inv M2 := by
  by_cases h1 : wi v1 0 4 = 0
  · exact ⟨fdv 1, fdC M 1, fdM (fdC M 1) 1, by simp only [f_X10_rule, e_X10_isWithin, e_X11_isIn, e_X1_isKind, e_X10_isRater, e_X10_isPace, e_X10_isWeek, e_X10_isWorker, e_X10_isCause, e_X11_isPace, e_X11_isWeek, e_X11_isWorker, e_X11_isElement, e_X11_isJob, bE_s, bI, bM, jn, one_ne0, e_fdC1, e_fdM1, e_fdC2, e_fdM2, e_fdC3, e_fdM3, e_fdC4, e_fdM4, e_fdC5, e_fdM5, h1, if_true, if_false], by simp only [f_X11_rule, e_X10_isWithin, e_X11_isIn, e_X1_isKind, e_X10_isRater, e_X10_isPace, e_X10_isWeek, e_X10_isWorker, e_X10_isCause, e_X11_isPace, e_X11_isWeek, e_X11_isWorker, e_X11_isElement, e_X11_isJob, bE_s, bI, bM, jn, one_ne0, e_fdC1, e_fdM1, e_fdC2, e_fdM2, e_fdC3, e_fdM3, e_fdC4, e_fdM4, e_fdC5, e_fdM5, h1, fdC_at (show (11 : Nat) ≠ 12 by decide), if_true, if_false], inv_fd hI 1⟩
  obtain ⟨x, -, hx, rfl⟩ := wi_nat (lo := 0) (hi := 4) (by decide) (by decide) h1
  refine ⟨M.1 80 x, M, M, ?_, ?_, hI⟩
  · simp only [f_X10_rule, f_X5_valueOf, e_X10_isWithin, e_X11_isIn, e_X1_isKind, e_X10_isRater, e_X10_isPace, e_X10_isWeek, e_X10_isWorker, e_X10_isCause, e_X11_isPace, e_X11_isWeek, e_X11_isWorker, e_X11_isElement, e_X11_isJob, bE_s, bI, bM, jn, one_ne0, e_fdC1, e_fdM1, e_fdC2, e_fdM2, e_fdC3, e_fdM3, e_fdC4, e_fdM4, e_fdC5, e_fdM5, h1, if_false, gV_nI (show x < 5 by omega) (by decide), nI_clamp (show x < 2 ^ 31 by omega), hI.rel.rules]
  · simp only [f_X11_rule, e_X10_isWithin, e_X11_isIn, e_X1_isKind, e_X10_isRater, e_X10_isPace, e_X10_isWeek, e_X10_isWorker, e_X10_isCause, e_X11_isPace, e_X11_isWeek, e_X11_isWorker, e_X11_isElement, e_X11_isJob, bE_s, bI, bM, jn, one_ne0, e_fdC1, e_fdM1, e_fdC2, e_fdM2, e_fdC3, e_fdM3, e_fdC4, e_fdM4, e_fdC5, e_fdM5, h1, if_false, gV_nI (show x < 5 by omega) (by decide), nI_clamp (show x < 2 ^ 31 by omega)]
theorem st_found {M : Mem} (hI : Inv M) (v1 : Int32) : ∃ (r : Int32) (M1 M2 : Mem), f_X10_found v1 M = some (r, M1) ∧ f_X11_found v1 M1 = some (r, M2) ∧ Inv M2 := by
  by_cases h1 : wi v1 1 5 = 0
  · exact ⟨fdv 1, fdC M 1, fdM (fdC M 1) 1, by simp only [f_X10_found, e_X10_isWithin, e_X11_isIn, e_X1_isKind, e_X10_isRater, e_X10_isPace, e_X10_isWeek, e_X10_isWorker, e_X10_isCause, e_X11_isPace, e_X11_isWeek, e_X11_isWorker, e_X11_isElement, e_X11_isJob, bE_s, bI, bM, jn, one_ne0, e_fdC1, e_fdM1, e_fdC2, e_fdM2, e_fdC3, e_fdM3, e_fdC4, e_fdM4, e_fdC5, e_fdM5, h1, if_true, if_false], by simp only [f_X11_found, e_X10_isWithin, e_X11_isIn, e_X1_isKind, e_X10_isRater, e_X10_isPace, e_X10_isWeek, e_X10_isWorker, e_X10_isCause, e_X11_isPace, e_X11_isWeek, e_X11_isWorker, e_X11_isElement, e_X11_isJob, bE_s, bI, bM, jn, one_ne0, e_fdC1, e_fdM1, e_fdC2, e_fdM2, e_fdC3, e_fdM3, e_fdC4, e_fdM4, e_fdC5, e_fdM5, h1, fdC_at (show (11 : Nat) ≠ 12 by decide), if_true, if_false], inv_fd hI 1⟩
  obtain ⟨x, -, hx, rfl⟩ := wi_nat (lo := 1) (hi := 5) (by decide) (by decide) h1
  refine ⟨M.1 95 x, M, M, ?_, ?_, hI⟩
  · simp only [f_X10_found, e_X10_isWithin, e_X11_isIn, e_X1_isKind, e_X10_isRater, e_X10_isPace, e_X10_isWeek, e_X10_isWorker, e_X10_isCause, e_X11_isPace, e_X11_isWeek, e_X11_isWorker, e_X11_isElement, e_X11_isJob, bE_s, bI, bM, jn, one_ne0, e_fdC1, e_fdM1, e_fdC2, e_fdM2, e_fdC3, e_fdM3, e_fdC4, e_fdM4, e_fdC5, e_fdM5, h1, if_false, gV_nI (show x < 6 by omega) (by decide), nI_clamp (show x < 2 ^ 31 by omega), hI.rel.found]
  · simp only [f_X11_found, e_X10_isWithin, e_X11_isIn, e_X1_isKind, e_X10_isRater, e_X10_isPace, e_X10_isWeek, e_X10_isWorker, e_X10_isCause, e_X11_isPace, e_X11_isWeek, e_X11_isWorker, e_X11_isElement, e_X11_isJob, bE_s, bI, bM, jn, one_ne0, e_fdC1, e_fdM1, e_fdC2, e_fdM2, e_fdC3, e_fdM3, e_fdC4, e_fdM4, e_fdC5, e_fdM5, h1, if_false, gV_nI (show x < 6 by omega) (by decide), nI_clamp (show x < 2 ^ 31 by omega)]
theorem st_tell {M : Mem} (hI : Inv M) (v1 : Int32) : ∃ (r : Int32) (M1 M2 : Mem), f_X10_tell v1 M = some (r, M1) ∧ f_X11_tell v1 M1 = some (r, M2) ∧ Inv M2 := by
  obtain ⟨n, hn, e⟩ := hI.n.1
  have em : M.1 0 12 = nI n := hI.rel.nums.trans e
  by_cases h2 : n = 8
  · subst h2
    exact ⟨fdv 4, fdC M 4, fdM (fdC M 4) 4, by simp only [f_X10_tell, e_X10_isWithin, e_X11_isIn, e_X1_isKind, e_X10_isRater, e_X10_isPace, e_X10_isWeek, e_X10_isWorker, e_X10_isCause, e_X11_isPace, e_X11_isWeek, e_X11_isWorker, e_X11_isElement, e_X11_isJob, bE_s, bI, bM, jn, one_ne0, e_fdC1, e_fdM1, e_fdC2, e_fdM2, e_fdC3, e_fdM3, e_fdC4, e_fdM4, e_fdC5, e_fdM5, em, show ¬ nI 8 < 8 by decide, if_true, if_false], by simp only [f_X11_tell, e_X10_isWithin, e_X11_isIn, e_X1_isKind, e_X10_isRater, e_X10_isPace, e_X10_isWeek, e_X10_isWorker, e_X10_isCause, e_X11_isPace, e_X11_isWeek, e_X11_isWorker, e_X11_isElement, e_X11_isJob, bE_s, bI, bM, jn, one_ne0, e_fdC1, e_fdM1, e_fdC2, e_fdM2, e_fdC3, e_fdM3, e_fdC4, e_fdM4, e_fdC5, e_fdM5, e, show nI 8 = 8 from rfl, fdC_at (show (11 : Nat) ≠ 12 by decide), if_true, if_false], inv_fd hI 4⟩
  have hlt : nI n < 8 := nI_lt (b := 8) (by omega) (by decide)
  have hne : ¬ nI n = 8 := fun q => h2 ((nI_eq (b := 8) (by omega) (by decide)).mp q)
  refine ⟨nI n + 1, up2 (up2 M 13 n v1) 0 12 (nI n + 1), up2 (up2 (up2 (up2 M 13 n v1) 0 12 (nI n + 1)) 94 n v1) 11 39 (nI n + 1), ?_, ?_, ?_⟩
  · simp only [f_X10_tell, e_X10_isWithin, e_X11_isIn, e_X1_isKind, e_X10_isRater, e_X10_isPace, e_X10_isWeek, e_X10_isWorker, e_X10_isCause, e_X11_isPace, e_X11_isWeek, e_X11_isWorker, e_X11_isElement, e_X11_isJob, bE_s, bI, bM, jn, one_ne0, e_fdC1, e_fdM1, e_fdC2, e_fdM2, e_fdC3, e_fdM3, e_fdC4, e_fdM4, e_fdC5, e_fdM5]
    show (if M.1 0 12 < 8 then gV (M.1 0 12) 8 (some (M.1 0 12 + 1, up2 (up2 M 13 (M.1 0 12).toNatClampNeg v1) 0 12 (M.1 0 12 + 1))) else _) = _
    rw [em, if_pos hlt, gV_nI (by omega) (by decide), nI_clamp (by omega)]
  · simp only [f_X11_tell, e_X10_isWithin, e_X11_isIn, e_X1_isKind, e_X10_isRater, e_X10_isPace, e_X10_isWeek, e_X10_isWorker, e_X10_isCause, e_X11_isPace, e_X11_isWeek, e_X11_isWorker, e_X11_isElement, e_X11_isJob, bE_s, bI, bM, jn, one_ne0, e_fdC1, e_fdM1, e_fdC2, e_fdM2, e_fdC3, e_fdM3, e_fdC4, e_fdM4, e_fdC5, e_fdM5]
    show (if M.1 11 39 = 8 then _ else gV (M.1 11 39) 8 (some (M.1 11 39 + 1, up2 (up2 _ 94 (M.1 11 39).toNatClampNeg v1) 11 39 (M.1 11 39 + 1)))) = _
    rw [e, if_neg hne, gV_nI (by omega) (by decide), nI_clamp (by omega)]
  · exact ⟨⟨hI.rel.many, hI.rel.base, hI.rel.more, hI.rel.kinds, hI.rel.films, hI.rel.cycles, hI.rel.cOf, hI.rel.cBy, hI.rel.cPace, hI.rel.cTime, hI.rel.jobs, hI.rel.parts, hI.rel.pOf, hI.rel.often, hI.rel.rates, hI.rel.rOf, hI.rel.rFrom, hI.rel.worth, hI.rel.taped, hI.rel.rules, hI.rel.tape, hI.rel.rows, hI.rel.wWeek, hI.rel.wWorker, hI.rel.wJob, hI.rel.wGood, hI.rel.wSpoilt, hI.rel.wMin, hI.rel.wWat, hI.rel.began, hI.rel.waits, hI.rel.aWeek, hI.rel.aWorker, hI.rel.aMin, rfl, (by show upd (M.1 13) n v1 = upd (M.1 94) n v1; rw [hI.rel.num]), hI.rel.week, hI.rel.found⟩, hI.e, hI.f, hI.c, hI.j, hI.r, hI.m, hI.u, hI.t, hI.w, hI.a, hI.b, ⟨⟨n + 1, by omega, nI_1 n⟩, hI.n.2⟩⟩
