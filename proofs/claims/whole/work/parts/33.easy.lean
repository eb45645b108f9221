/-! CYCLES, NORMALS, KINDS, WAITING, LEARNERS -/
def mx1 (x : Int32) : Int32 := if 1 ≤ x then x else 1
theorem mx1_lt (x : Int32) : (if 1 < x then x else 1) = mx1 x := by
  unfold mx1
  by_cases h : 1 ≤ x
  · rw [if_pos h]
    by_cases h2 : 1 < x
    · rw [if_pos h2]
    · rw [if_neg h2]
      rw [i_le] at h
      rw [i_lt] at h2
      rw [i_eq]
      omega
  · rw [if_neg h, if_neg]
    intro q
    rw [i_lt] at q
    rw [i_le] at h
    omega
def nrmF (fo fv cb pc ti : Nat → Int32) (nf c : Nat) : Int32 := (ti c * mx1 (pc c - hbt fo fv (cb c) nf)) / 100
theorem e_X11_normalOf {M : Mem} {n : Nat} (hn : n ≤ 20) (e : M.1 11 4 = nI n) {c : Nat} (hc : c < 60) : f_X11_normalOf (nI c) M = some (nrmF (M.1 67) (M.1 68) (M.1 70) (M.1 71) (M.1 72) n c, M) := by
  unfold f_X11_normalOf
  simp only [gV_nI hc (show (60 : Nat) < 2 ^ 31 by decide), nI_clamp (show c < 2 ^ 31 by omega), e_X11_habitOf _ M hn e, bE_s, bI, jn, nrmF, mx1]
  by_cases h : 1 ≤ M.1 71 c - hbt (M.1 67) (M.1 68) (M.1 70 c) n
  · simp only [h, if_true]
  · simp only [h, if_false]
theorem e_X8_normalOf {M : Mem} (hI : Inv M) {n : Nat} (hn : n ≤ 20) (e : M.1 11 4 = nI n) {c : Nat} (hc : c < (M.1 11 7).toNatClampNeg) : f_X8_normalOf (nI c) M = some (nrmF (M.1 67) (M.1 68) (M.1 70) (M.1 71) (M.1 72) n c, M) := by
  obtain ⟨k, hk, ek, hb⟩ := hI.c
  rw [ek, nI_clamp (by omega)] at hc
  obtain ⟨⟨r, hr, er⟩, -⟩ := hb c hc
  unfold f_X8_normalOf
  simp only [gV_nI (show c < 60 by omega) (show (60 : Nat) < 2 ^ 31 by decide), nI_clamp (show c < 2 ^ 31 by omega), hI.rel.cBy, er, e_X8_habitOf hI (show r < 4 by omega) hn e, bE_s, bI, hI.rel.cPace, hI.rel.cTime, mx1_lt, nrmF]
theorem st_normal {M : Mem} (hI : Inv M) (v1 : Int32) : ∃ (r : Int32) (M1 M2 : Mem), f_X10_normal v1 M = some (r, M1) ∧ f_X11_normal v1 M1 = some (r, M2) ∧ Inv M2 := by
  obtain ⟨n, hn, e, -⟩ := hI.f
  obtain ⟨k, hk, ek, -⟩ := hI.c
  have em : M.1 2 8 = nI k := hI.rel.cycles.trans ek
  by_cases h1 : hs v1 (nI k) = 0
  · refine ⟨fdv 1, fdC M 1, fdM (fdC M 1) 1, ?_, ?_, inv_fd hI 1⟩
    · simp only [f_X10_normal, e_X8_cycleMany, e_X10_isWithin, e_X11_isIn, e_X1_isKind, e_X10_isRater, e_X10_isPace, e_X10_isWeek, e_X10_isWorker, e_X10_isCause, e_X11_isPace, e_X11_isWeek, e_X11_isWorker, e_X11_isElement, e_X11_isJob, bE_s, bI, bM, jn, one_ne0, e_fdC1, e_fdM1, e_fdC2, e_fdM2, e_fdC3, e_fdM3, e_fdC4, e_fdM4, e_fdC5, e_fdM5, em, hs_wi (show k < 2 ^ 30 by omega), h1, if_true]
    · simp only [f_X11_normal, e_X10_isWithin, e_X11_isIn, e_X1_isKind, e_X10_isRater, e_X10_isPace, e_X10_isWeek, e_X10_isWorker, e_X10_isCause, e_X11_isPace, e_X11_isWeek, e_X11_isWorker, e_X11_isElement, e_X11_isJob, bE_s, bI, bM, jn, one_ne0, e_fdC1, e_fdM1, e_fdC2, e_fdM2, e_fdC3, e_fdM3, e_fdC4, e_fdM4, e_fdC5, e_fdM5, fdC_at (show (11 : Nat) ≠ 12 by decide), ek]
      unfold hs at h1
      by_cases q : v1 < 0
      · simp only [q, if_true]
      · by_cases q2 : nI k ≤ v1
        · simp only [q, q2, if_true, if_false]
        · simp only [q, q2, if_false, one_ne0] at h1
  · obtain ⟨c, hc, rfl⟩ := hs_nat (by omega) h1
    have hcc : c < (M.1 11 7).toNatClampNeg := by rw [ek, nI_clamp (by omega)]; exact hc
    refine ⟨nrmF (M.1 67) (M.1 68) (M.1 70) (M.1 71) (M.1 72) n c, M, M, ?_, ?_, hI⟩
    · simp only [f_X10_normal, e_X8_cycleMany, e_X10_isWithin, e_X11_isIn, e_X1_isKind, e_X10_isRater, e_X10_isPace, e_X10_isWeek, e_X10_isWorker, e_X10_isCause, e_X11_isPace, e_X11_isWeek, e_X11_isWorker, e_X11_isElement, e_X11_isJob, bE_s, bI, bM, jn, one_ne0, e_fdC1, e_fdM1, e_fdC2, e_fdM2, e_fdC3, e_fdM3, e_fdC4, e_fdM4, e_fdC5, e_fdM5, em, hs_wi (show k < 2 ^ 30 by omega), h1, if_false, e_X8_normalOf hI hn e hcc]
    · simp only [f_X11_normal, e_X10_isWithin, e_X11_isIn, e_X1_isKind, e_X10_isRater, e_X10_isPace, e_X10_isWeek, e_X10_isWorker, e_X10_isCause, e_X11_isPace, e_X11_isWeek, e_X11_isWorker, e_X11_isElement, e_X11_isJob, bE_s, bI, bM, jn, one_ne0, e_fdC1, e_fdM1, e_fdC2, e_fdM2, e_fdC3, e_fdM3, e_fdC4, e_fdM4, e_fdC5, e_fdM5, ek, nI_pos (show c < 2 ^ 31 by omega), nI_ge hc (show k < 2 ^ 31 by omega), if_false, e_X11_normalOf hn e (show c < 60 by omega)]
theorem e_X8_addCycle {M : Mem} {n : Nat} (em : M.1 2 8 = nI n) (hn : n < 60) (v1 v2 v3 v4 : Int32) : f_X8_addCycle v1 v2 v3 v4 M = some (nI n + 1, up2 (up2 (up2 (up2 (up2 M 17 n v1) 18 n v2) 19 n v3) 20 n v4) 2 8 (nI n + 1)) := by
  show gV (M.1 2 8) 60 (gV (M.1 2 8) 60 (gV (M.1 2 8) 60 (gV (M.1 2 8) 60 (some (M.1 2 8 + 1, up2 (up2 (up2 (up2 (up2 M 17 (M.1 2 8).toNatClampNeg v1) 18 (M.1 2 8).toNatClampNeg v2) 19 (M.1 2 8).toNatClampNeg v3) 20 (M.1 2 8).toNatClampNeg v4) 2 8 (M.1 2 8 + 1)))))) = _
  rw [em, gV_nI (by omega) (by decide), gV_nI (by omega) (by decide), gV_nI (by omega) (by decide), gV_nI (by omega) (by decide), nI_clamp (by omega)]
theorem st_cycle {M : Mem} (hI : Inv M) (v1 v2 v3 v4 : Int32) : ∃ (r : Int32) (M1 M2 : Mem), f_X10_cycle v1 v2 v3 v4 M = some (r, M1) ∧ f_X11_cycle v1 v2 v3 v4 M1 = some (r, M2) ∧ Inv M2 := by
  obtain ⟨ne, hne0, ee⟩ := hI.e.1
  obtain ⟨n, hn, e, hb⟩ := hI.c
  have em : M.1 2 8 = nI n := hI.rel.cycles.trans e
  by_cases h1 : hs v1 (M.1 11 0) = 0
  · exact ⟨fdv 1, fdC M 1, fdM (fdC M 1) 1, by simp only [f_X10_cycle, e_X10_isWithin, e_X11_isIn, e_X1_isKind, e_X10_isRater, e_X10_isPace, e_X10_isWeek, e_X10_isWorker, e_X10_isCause, e_X11_isPace, e_X11_isWeek, e_X11_isWorker, e_X11_isElement, e_X11_isJob, bE_s, bI, bM, jn, one_ne0, e_fdC1, e_fdM1, e_fdC2, e_fdM2, e_fdC3, e_fdM3, e_fdC4, e_fdM4, e_fdC5, e_fdM5, e_X1_has hI, h1, if_true, if_false], by simp only [f_X11_cycle, e_X10_isWithin, e_X11_isIn, e_X1_isKind, e_X10_isRater, e_X10_isPace, e_X10_isWeek, e_X10_isWorker, e_X10_isCause, e_X11_isPace, e_X11_isWeek, e_X11_isWorker, e_X11_isElement, e_X11_isJob, bE_s, bI, bM, jn, one_ne0, e_fdC1, e_fdM1, e_fdC2, e_fdM2, e_fdC3, e_fdM3, e_fdC4, e_fdM4, e_fdC5, e_fdM5, e_X1_has hI, h1, fdC_at (show (11 : Nat) ≠ 12 by decide), if_true, if_false], inv_fd hI 1⟩
  by_cases h2 : wi v2 0 3 = 0
  · exact ⟨fdv 1, fdC M 1, fdM (fdC M 1) 1, by simp only [f_X10_cycle, e_X10_isWithin, e_X11_isIn, e_X1_isKind, e_X10_isRater, e_X10_isPace, e_X10_isWeek, e_X10_isWorker, e_X10_isCause, e_X11_isPace, e_X11_isWeek, e_X11_isWorker, e_X11_isElement, e_X11_isJob, bE_s, bI, bM, jn, one_ne0, e_fdC1, e_fdM1, e_fdC2, e_fdM2, e_fdC3, e_fdM3, e_fdC4, e_fdM4, e_fdC5, e_fdM5, e_X1_has hI, h1, h2, if_true, if_false], by simp only [f_X11_cycle, e_X10_isWithin, e_X11_isIn, e_X1_isKind, e_X10_isRater, e_X10_isPace, e_X10_isWeek, e_X10_isWorker, e_X10_isCause, e_X11_isPace, e_X11_isWeek, e_X11_isWorker, e_X11_isElement, e_X11_isJob, bE_s, bI, bM, jn, one_ne0, e_fdC1, e_fdM1, e_fdC2, e_fdM2, e_fdC3, e_fdM3, e_fdC4, e_fdM4, e_fdC5, e_fdM5, e_X1_has hI, h1, h2, fdC_at (show (11 : Nat) ≠ 12 by decide), if_true, if_false], inv_fd hI 1⟩
  by_cases h3 : wi v3 50 150 = 0
  · exact ⟨fdv 1, fdC M 1, fdM (fdC M 1) 1, by simp only [f_X10_cycle, e_X10_isWithin, e_X11_isIn, e_X1_isKind, e_X10_isRater, e_X10_isPace, e_X10_isWeek, e_X10_isWorker, e_X10_isCause, e_X11_isPace, e_X11_isWeek, e_X11_isWorker, e_X11_isElement, e_X11_isJob, bE_s, bI, bM, jn, one_ne0, e_fdC1, e_fdM1, e_fdC2, e_fdM2, e_fdC3, e_fdM3, e_fdC4, e_fdM4, e_fdC5, e_fdM5, e_X1_has hI, h1, h2, h3, if_true, if_false], by simp only [f_X11_cycle, e_X10_isWithin, e_X11_isIn, e_X1_isKind, e_X10_isRater, e_X10_isPace, e_X10_isWeek, e_X10_isWorker, e_X10_isCause, e_X11_isPace, e_X11_isWeek, e_X11_isWorker, e_X11_isElement, e_X11_isJob, bE_s, bI, bM, jn, one_ne0, e_fdC1, e_fdM1, e_fdC2, e_fdM2, e_fdC3, e_fdM3, e_fdC4, e_fdM4, e_fdC5, e_fdM5, e_X1_has hI, h1, h2, h3, fdC_at (show (11 : Nat) ≠ 12 by decide), if_true, if_false], inv_fd hI 1⟩
  by_cases h4 : wi v4 1 999 = 0
  · exact ⟨fdv 1, fdC M 1, fdM (fdC M 1) 1, by simp only [f_X10_cycle, e_X10_isWithin, e_X11_isIn, e_X1_isKind, e_X10_isRater, e_X10_isPace, e_X10_isWeek, e_X10_isWorker, e_X10_isCause, e_X11_isPace, e_X11_isWeek, e_X11_isWorker, e_X11_isElement, e_X11_isJob, bE_s, bI, bM, jn, one_ne0, e_fdC1, e_fdM1, e_fdC2, e_fdM2, e_fdC3, e_fdM3, e_fdC4, e_fdM4, e_fdC5, e_fdM5, e_X1_has hI, h1, h2, h3, h4, if_true, if_false], by simp only [f_X11_cycle, e_X10_isWithin, e_X11_isIn, e_X1_isKind, e_X10_isRater, e_X10_isPace, e_X10_isWeek, e_X10_isWorker, e_X10_isCause, e_X11_isPace, e_X11_isWeek, e_X11_isWorker, e_X11_isElement, e_X11_isJob, bE_s, bI, bM, jn, one_ne0, e_fdC1, e_fdM1, e_fdC2, e_fdM2, e_fdC3, e_fdM3, e_fdC4, e_fdM4, e_fdC5, e_fdM5, e_X1_has hI, h1, h2, h3, h4, fdC_at (show (11 : Nat) ≠ 12 by decide), if_true, if_false], inv_fd hI 1⟩
  by_cases h5 : n = 60
  · subst h5
    exact ⟨fdv 4, fdC M 4, fdM (fdC M 4) 4, by simp only [f_X10_cycle, e_X10_isWithin, e_X11_isIn, e_X1_isKind, e_X10_isRater, e_X10_isPace, e_X10_isWeek, e_X10_isWorker, e_X10_isCause, e_X11_isPace, e_X11_isWeek, e_X11_isWorker, e_X11_isElement, e_X11_isJob, bE_s, bI, bM, jn, one_ne0, e_fdC1, e_fdM1, e_fdC2, e_fdM2, e_fdC3, e_fdM3, e_fdC4, e_fdM4, e_fdC5, e_fdM5, e_X1_has hI, h1, h2, h3, h4, e_X8_isFullOfCycles, em, show ¬ nI 60 < 60 by decide, if_true, if_false], by simp only [f_X11_cycle, e_X10_isWithin, e_X11_isIn, e_X1_isKind, e_X10_isRater, e_X10_isPace, e_X10_isWeek, e_X10_isWorker, e_X10_isCause, e_X11_isPace, e_X11_isWeek, e_X11_isWorker, e_X11_isElement, e_X11_isJob, bE_s, bI, bM, jn, one_ne0, e_fdC1, e_fdM1, e_fdC2, e_fdM2, e_fdC3, e_fdM3, e_fdC4, e_fdM4, e_fdC5, e_fdM5, h1, h2, h3, h4, e, show nI 60 = 60 from rfl, fdC_at (show (11 : Nat) ≠ 12 by decide), if_true, if_false], inv_fd hI 4⟩
  have hlt : nI n < 60 := nI_lt (b := 60) (by omega) (by decide)
  have hne : ¬ nI n = 60 := fun q => h5 ((nI_eq (b := 60) (by omega) (by decide)).mp q)
  obtain ⟨y, -, hy, rfl⟩ := wi_nat (lo := 0) (hi := 3) (by decide) (by decide) h2
  obtain ⟨z, hz0, hz, rfl⟩ := wi_nat (lo := 50) (hi := 150) (by decide) (by decide) h3
  obtain ⟨t, ht0, ht, rfl⟩ := wi_nat (lo := 1) (hi := 999) (by decide) (by decide) h4
  refine ⟨nI n + 1, up2 (up2 (up2 (up2 (up2 M 17 n v1) 18 n (nI y)) 19 n (nI z)) 20 n (nI t)) 2 8 (nI n + 1), up2 (up2 (up2 (up2 (up2 (up2 (up2 (up2 (up2 (up2 M 17 n v1) 18 n (nI y)) 19 n (nI z)) 20 n (nI t)) 2 8 (nI n + 1)) 69 n v1) 70 n (nI y)) 71 n (nI z)) 72 n (nI t)) 11 7 (nI n + 1), ?_, ?_, ?_⟩
  · simp only [f_X10_cycle, e_X8_addCycle em (show n < 60 by omega), e_X1_has hI, e_X8_isFullOfCycles, e_X10_isWithin, e_X11_isIn, e_X1_isKind, e_X10_isRater, e_X10_isPace, e_X10_isWeek, e_X10_isWorker, e_X10_isCause, e_X11_isPace, e_X11_isWeek, e_X11_isWorker, e_X11_isElement, e_X11_isJob, bE_s, bI, bM, jn, one_ne0, e_fdC1, e_fdM1, e_fdC2, e_fdM2, e_fdC3, e_fdM3, e_fdC4, e_fdM4, e_fdC5, e_fdM5, h1, h2, h3, h4, if_false, em, hlt, if_true]
  · simp only [f_X11_cycle, e_X10_isWithin, e_X11_isIn, e_X1_isKind, e_X10_isRater, e_X10_isPace, e_X10_isWeek, e_X10_isWorker, e_X10_isCause, e_X11_isPace, e_X11_isWeek, e_X11_isWorker, e_X11_isElement, e_X11_isJob, bE_s, bI, bM, jn, one_ne0, e_fdC1, e_fdM1, e_fdC2, e_fdM2, e_fdC3, e_fdM3, e_fdC4, e_fdM4, e_fdC5, e_fdM5, h2, h3, h4, if_false]
    show (if hs v1 (M.1 11 0) = 0 then _ else if M.1 11 7 = 60 then _ else gV (M.1 11 7) 60 (gV (M.1 11 7) 60 (gV (M.1 11 7) 60 (gV (M.1 11 7) 60 (some (M.1 11 7 + 1, up2 (up2 (up2 (up2 (up2 _ 69 (M.1 11 7).toNatClampNeg v1) 70 (M.1 11 7).toNatClampNeg (nI y)) 71 (M.1 11 7).toNatClampNeg (nI z)) 72 (M.1 11 7).toNatClampNeg (nI t)) 11 7 (M.1 11 7 + 1))))))) = _
    rw [if_neg h1, e, if_neg hne, gV_nI (by omega) (by decide), gV_nI (by omega) (by decide), gV_nI (by omega) (by decide), gV_nI (by omega) (by decide), nI_clamp (by omega)]
  · have hc : GC (nI n + 1) (upd (M.1 70) n (nI y)) (upd (M.1 71) n (nI z)) (upd (M.1 72) n (nI t)) := by
      refine ⟨n + 1, by omega, nI_1 n, fun j hj => ?_⟩
      by_cases q : j = n
      · subst q
        rw [upd_s, upd_s, upd_s]
        exact ⟨⟨y, hy, rfl⟩, ⟨z, hz0, hz, rfl⟩, ⟨t, ht0, ht, rfl⟩⟩
      · rw [upd_n q, upd_n q, upd_n q]
        exact hb j (by omega)
    have htm : ∀ x : Int32, timed (M.1 11 7) (M.1 69) x → timed (nI n + 1) (upd (M.1 69) n v1) x := by
      intro x hx
      obtain ⟨c, hc, rfl⟩ := hx
      rw [e, nI_clamp (by omega)] at hc
      exact ⟨c, by rw [nI_1, nI_clamp (by omega)]; omega, upd_n (by omega)⟩
    have hr : GR (nI n + 1) (upd (M.1 69) n v1) (M.1 73) (M.1 74) (M.1 75) (M.1 11 17) (M.1 77) (M.1 78) (M.1 79) (M.1 28) := by
      obtain ⟨k, k1, k2, k3⟩ := hI.r
      refine ⟨k, k1, k2, fun r hr => ?_⟩
      obtain ⟨a1, a2, j, a3, a4, a5, a6, a7⟩ := k3 r hr
      exact ⟨a1, a2, j, a3, a4, a5, fun i hi => htm _ (a6 i hi), a7⟩
    exact ⟨⟨hI.rel.many, hI.rel.base, hI.rel.more, hI.rel.kinds, hI.rel.films, rfl, (by show upd (M.1 17) n v1 = upd (M.1 69) n v1; rw [hI.rel.cOf]), (by show upd (M.1 18) n (nI y) = upd (M.1 70) n (nI y); rw [hI.rel.cBy]), (by show upd (M.1 19) n (nI z) = upd (M.1 71) n (nI z); rw [hI.rel.cPace]), (by show upd (M.1 20) n (nI t) = upd (M.1 72) n (nI t); rw [hI.rel.cTime]), hI.rel.jobs, hI.rel.parts, hI.rel.pOf, hI.rel.often, hI.rel.rates, hI.rel.rOf, hI.rel.rFrom, hI.rel.worth, hI.rel.taped, hI.rel.rules, hI.rel.tape, hI.rel.rows, hI.rel.wWeek, hI.rel.wWorker, hI.rel.wJob, hI.rel.wGood, hI.rel.wSpoilt, hI.rel.wMin, hI.rel.wWat, hI.rel.began, hI.rel.waits, hI.rel.aWeek, hI.rel.aWorker, hI.rel.aMin, hI.rel.nums, hI.rel.num, hI.rel.week, hI.rel.found⟩, hI.e, hI.f, hc, hI.j, hr, hI.m, hI.u, hI.t, hI.w, hI.a, hI.b, hI.n⟩
def alw (kd base more : Int32) : Int32 := if kd = 1 then base + more else if kd = 2 then base + 3 * more else if kd = 3 then base / 2 else base
theorem e_X11_allowanceOf (M : Mem) {i : Nat} (hi : i < 12) : f_X11_allowanceOf (nI i) M = some (alw (M.1 66 i) (M.1 11 2) (M.1 11 3), M) := by
  unfold f_X11_allowanceOf alw
  rw [gV_nI hi (by decide), nI_clamp (by omega)]
  by_cases h1 : M.1 66 i = 1
  · simp only [h1, if_true]
  · by_cases h2 : M.1 66 i = 2
    · simp only [h2, if_true, show ¬ (2 : Int32) = 1 by decide, if_false]
    · by_cases h3 : M.1 66 i = 3
      · simp only [h3, if_true, show ¬ (3 : Int32) = 1 by decide, show ¬ (3 : Int32) = 2 by decide, if_false]
      · simp only [h1, h2, h3, if_false]
theorem e_X1_allowanceOf {M : Mem} (hI : Inv M) {i : Nat} (hi : i < 12) : f_X1_allowanceOf (nI i) M = some (alw (M.1 66 i) (M.1 11 2) (M.1 11 3), M) := by
  unfold f_X1_allowanceOf alw
  rw [gV_nI hi (by decide), nI_clamp (by omega), hI.rel.kinds, hI.rel.base, hI.rel.more]
  by_cases h1 : M.1 66 i = 1
  · simp only [h1, if_true]
  · by_cases h2 : M.1 66 i = 2
    · simp only [h2, if_true, show ¬ (2 : Int32) = 1 by decide, if_false]
    · by_cases h3 : M.1 66 i = 3
      · simp only [h3, if_true, show ¬ (3 : Int32) = 1 by decide, show ¬ (3 : Int32) = 2 by decide, if_false]
      · simp only [h1, h2, h3, if_false]
theorem c4 {P : Nat → Prop} (h0 : P 0) (h1 : P 1) (h2 : P 2) (h3 : P 3) : ∀ k, k < 4 → P k := by
  intro k hk
  rcases (show k = 0 ∨ k = 1 ∨ k = 2 ∨ k = 3 by omega) with rfl | rfl | rfl | rfl
  · exact h0
  · exact h1
  · exact h2
  · exact h3
def ubN (k t : Nat) : Int32 := if t = 0 ∨ k = t ∨ (t = 1 ∧ k = 2) then 1 else 0
theorem e_under (v1 : Int32) (M : Mem) (z : Nat) : ∀ k, k < 4 → ∀ t, t < 4 → f_X1_isUnder_L10 v1 (nI t) (z + 5) (nI k) 0 M (fun w3 w4 M5 => some ((0 : Int32), M5)) = some (ubN k t, M) :=
  c4 (c4 rfl rfl rfl rfl) (c4 rfl rfl rfl rfl) (c4 rfl rfl rfl rfl) (c4 rfl rfl rfl rfl)
theorem e_X1_isUnder {M : Mem} (hI : Inv M) {i k t : Nat} (hi : i < 12) (hk : k < 4) (ht : t < 4) (ek : M.1 66 i = nI k) : f_X1_isUnder (nI i) (nI t) M = some (ubN k t, M) := by
  obtain ⟨z, hz⟩ := FU_pos (d := 4) (by decide)
  unfold f_X1_isUnder
  rw [gV_nI hi (by decide), nI_clamp (by omega), hI.rel.kinds, ek]
  unfold bI
  rw [hz]
  exact e_under (nI i) M z k hk t ht
theorem st_as {M : Mem} (hI : Inv M) (v1 v2 : Int32) : ∃ (r : Int32) (M1 M2 : Mem), f_X10_as v1 v2 M = some (r, M1) ∧ f_X11_as v1 v2 M1 = some (r, M2) ∧ Inv M2 := by
  obtain ⟨n, hn, e⟩ := hI.e.1
  by_cases h1 : hs v1 (M.1 11 0) = 0
  · exact ⟨fdv 1, fdC M 1, fdM (fdC M 1) 1, by simp only [f_X10_as, e_X10_isWithin, e_X11_isIn, e_X1_isKind, e_X10_isRater, e_X10_isPace, e_X10_isWeek, e_X10_isWorker, e_X10_isCause, e_X11_isPace, e_X11_isWeek, e_X11_isWorker, e_X11_isElement, e_X11_isJob, bE_s, bI, bM, jn, one_ne0, e_fdC1, e_fdM1, e_fdC2, e_fdM2, e_fdC3, e_fdM3, e_fdC4, e_fdM4, e_fdC5, e_fdM5, e_X1_has hI, h1, if_true, if_false], by simp only [f_X11_as, e_X10_isWithin, e_X11_isIn, e_X1_isKind, e_X10_isRater, e_X10_isPace, e_X10_isWeek, e_X10_isWorker, e_X10_isCause, e_X11_isPace, e_X11_isWeek, e_X11_isWorker, e_X11_isElement, e_X11_isJob, bE_s, bI, bM, jn, one_ne0, e_fdC1, e_fdM1, e_fdC2, e_fdM2, e_fdC3, e_fdM3, e_fdC4, e_fdM4, e_fdC5, e_fdM5, e_X1_has hI, h1, fdC_at (show (11 : Nat) ≠ 12 by decide), if_true, if_false], inv_fd hI 1⟩
  by_cases h2 : wi v2 0 3 = 0
  · exact ⟨fdv 1, fdC M 1, fdM (fdC M 1) 1, by simp only [f_X10_as, e_X10_isWithin, e_X11_isIn, e_X1_isKind, e_X10_isRater, e_X10_isPace, e_X10_isWeek, e_X10_isWorker, e_X10_isCause, e_X11_isPace, e_X11_isWeek, e_X11_isWorker, e_X11_isElement, e_X11_isJob, bE_s, bI, bM, jn, one_ne0, e_fdC1, e_fdM1, e_fdC2, e_fdM2, e_fdC3, e_fdM3, e_fdC4, e_fdM4, e_fdC5, e_fdM5, e_X1_has hI, h1, h2, if_true, if_false], by simp only [f_X11_as, e_X10_isWithin, e_X11_isIn, e_X1_isKind, e_X10_isRater, e_X10_isPace, e_X10_isWeek, e_X10_isWorker, e_X10_isCause, e_X11_isPace, e_X11_isWeek, e_X11_isWorker, e_X11_isElement, e_X11_isJob, bE_s, bI, bM, jn, one_ne0, e_fdC1, e_fdM1, e_fdC2, e_fdM2, e_fdC3, e_fdM3, e_fdC4, e_fdM4, e_fdC5, e_fdM5, e_X1_has hI, h1, h2, fdC_at (show (11 : Nat) ≠ 12 by decide), if_true, if_false], inv_fd hI 1⟩
  have h1' := h1
  rw [e] at h1'
  obtain ⟨i, hi, rfl⟩ := hs_nat (by omega) h1'
  obtain ⟨t, -, ht, rfl⟩ := wi_nat (lo := 0) (hi := 3) (by decide) (by decide) h2
  obtain ⟨k, hk, ek⟩ := hI.e.2.1 i
  have eu := e_X1_isUnder hI (show i < 12 by omega) (show k < 4 by omega) (show t < 4 by omega) ek
  by_cases hu : t = 0 ∨ k = t ∨ (t = 1 ∧ k = 2)
  · have eu1 : ubN k t = 1 := if_pos hu
    rw [eu1] at eu
    refine ⟨alw (M.1 66 i) (M.1 11 2) (M.1 11 3), M, M, ?_, ?_, hI⟩
    · simp only [f_X10_as, e_X1_has hI, e_X1_allowanceOf hI (show i < 12 by omega), e_X10_isWithin, e_X11_isIn, e_X1_isKind, e_X10_isRater, e_X10_isPace, e_X10_isWeek, e_X10_isWorker, e_X10_isCause, e_X11_isPace, e_X11_isWeek, e_X11_isWorker, e_X11_isElement, e_X11_isJob, bE_s, bI, bM, jn, one_ne0, e_fdC1, e_fdM1, e_fdC2, e_fdM2, e_fdC3, e_fdM3, e_fdC4, e_fdM4, e_fdC5, e_fdM5, h1, h2, if_false, eu]
    · simp only [f_X11_as, e_X11_allowanceOf M (show i < 12 by omega), e_X10_isWithin, e_X11_isIn, e_X1_isKind, e_X10_isRater, e_X10_isPace, e_X10_isWeek, e_X10_isWorker, e_X10_isCause, e_X11_isPace, e_X11_isWeek, e_X11_isWorker, e_X11_isElement, e_X11_isJob, bE_s, bI, bM, jn, one_ne0, e_fdC1, e_fdM1, e_fdC2, e_fdM2, e_fdC3, e_fdM3, e_fdC4, e_fdM4, e_fdC5, e_fdM5, h1, h2, if_false, gV_nI (show i < 12 by omega) (show (12 : Nat) < 2 ^ 31 by decide), nI_clamp (show i < 2 ^ 31 by omega), ek]
      rcases hu with rfl | rfl | ⟨rfl, rfl⟩
      · simp only [show nI 0 = 0 from rfl, if_true]
      · by_cases q : nI k = 0
        · simp only [q, if_true]
        · simp only [q, if_false, if_true]
      · rfl
  · have eu1 : ubN k t = 0 := if_neg hu
    rw [eu1] at eu
    have q1 : ¬ nI t = 0 := fun w => hu (Or.inl ((nI_eq (b := 0) (by omega) (by decide)).mp w))
    have q2 : ¬ nI k = nI t := fun w => hu (Or.inr (Or.inl ((nI_eq (by omega) (by omega)).mp w)))
    refine ⟨fdv 5, fdC M 5, fdM (fdC M 5) 5, ?_, ?_, inv_fd hI 5⟩
    · simp only [f_X10_as, e_X1_has hI, e_X10_isWithin, e_X11_isIn, e_X1_isKind, e_X10_isRater, e_X10_isPace, e_X10_isWeek, e_X10_isWorker, e_X10_isCause, e_X11_isPace, e_X11_isWeek, e_X11_isWorker, e_X11_isElement, e_X11_isJob, bE_s, bI, bM, jn, one_ne0, e_fdC1, e_fdM1, e_fdC2, e_fdM2, e_fdC3, e_fdM3, e_fdC4, e_fdM4, e_fdC5, e_fdM5, h1, h2, if_false, eu, if_true]
    · simp only [f_X11_as, e_X10_isWithin, e_X11_isIn, e_X1_isKind, e_X10_isRater, e_X10_isPace, e_X10_isWeek, e_X10_isWorker, e_X10_isCause, e_X11_isPace, e_X11_isWeek, e_X11_isWorker, e_X11_isElement, e_X11_isJob, bE_s, bI, bM, jn, one_ne0, e_fdC1, e_fdM1, e_fdC2, e_fdM2, e_fdC3, e_fdM3, e_fdC4, e_fdM4, e_fdC5, e_fdM5, fdC_at (show (11 : Nat) ≠ 12 by decide), fdC_at (show (66 : Nat) ≠ 12 by decide), h1, h2, q1, if_false, gV_nI (show i < 12 by omega) (show (12 : Nat) < 2 ^ 31 by decide), nI_clamp (show i < 2 ^ 31 by omega), ek, q2]
      by_cases q3 : nI t = 1
      · have q4 : ¬ nI k = 2 := fun w => hu (Or.inr (Or.inr ⟨(nI_eq (b := 1) (by omega) (by decide)).mp q3, (nI_eq (b := 2) (by omega) (by decide)).mp w⟩))
        simp only [q3, q4, if_true, if_false]
      · simp only [q3, if_false]
