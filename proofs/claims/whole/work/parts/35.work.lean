/-! WAITING, WORK, WORTHS -/
theorem e_X7_add {M : Mem} {n c : Nat} (em : M.1 7 4 = nI n) (hn : n < 60) (hc : c < 4) (v1 v2 v4 : Int32) : f_X7_add v1 v2 (nI c) v4 M = some (nI n + 1, up2 (up2 (up2 (up2 (up2 M 41 n v1) 42 n v2) 43 n v4) 44 c (M.1 44 c + v4)) 7 4 (nI n + 1)) := by
  show gV (M.1 7 4) 60 (gV (M.1 7 4) 60 (gV (M.1 7 4) 60 (gV (nI c) 4 (gV (nI c) 4 (some (M.1 7 4 + 1, up2 (up2 (up2 (up2 (up2 M 41 (M.1 7 4).toNatClampNeg v1) 42 (M.1 7 4).toNatClampNeg v2) 43 (M.1 7 4).toNatClampNeg v4) 44 (nI c).toNatClampNeg (M.1 44 (nI c).toNatClampNeg + v4)) 7 4 (M.1 7 4 + 1))))))) = _
  rw [em, gV_nI (by omega) (by decide), gV_nI (by omega) (by decide), gV_nI (by omega) (by decide), gV_nI hc (by decide), gV_nI hc (by decide), nI_clamp (by omega), nI_clamp (by omega)]
theorem st_wait {M : Mem} (hI : Inv M) (v1 v2 v3 v4 : Int32) : ∃ (r : Int32) (M1 M2 : Mem), f_X10_wait v1 v2 v3 v4 M = some (r, M1) ∧ f_X11_wait v1 v2 v3 v4 M1 = some (r, M2) ∧ Inv M2 := by
  obtain ⟨n, hn, e, hb, hmc⟩ := hI.a
  obtain ⟨wk, hwk, ew⟩ := hI.n.2
  have em : M.1 7 4 = nI n := hI.rel.waits.trans e
  have emw : M.1 0 13 = nI wk := hI.rel.week.trans ew
  by_cases h1 : wi v1 0 (nI wk) = 0
  · exact ⟨fdv 1, fdC M 1, fdM (fdC M 1) 1, by simp only [f_X10_wait, e_X10_isWithin, e_X11_isIn, e_X1_isKind, e_X10_isRater, e_X10_isPace, e_X10_isWeek, e_X10_isWorker, e_X10_isCause, e_X11_isPace, e_X11_isWeek, e_X11_isWorker, e_X11_isElement, e_X11_isJob, bE_s, bI, bM, jn, one_ne0, e_fdC1, e_fdM1, e_fdC2, e_fdM2, e_fdC3, e_fdM3, e_fdC4, e_fdM4, e_fdC5, e_fdM5, emw, h1, if_true, if_false], by simp only [f_X11_wait, e_X10_isWithin, e_X11_isIn, e_X1_isKind, e_X10_isRater, e_X10_isPace, e_X10_isWeek, e_X10_isWorker, e_X10_isCause, e_X11_isPace, e_X11_isWeek, e_X11_isWorker, e_X11_isElement, e_X11_isJob, bE_s, bI, bM, jn, one_ne0, e_fdC1, e_fdM1, e_fdC2, e_fdM2, e_fdC3, e_fdM3, e_fdC4, e_fdM4, e_fdC5, e_fdM5, ew, h1, fdC_at (show (11 : Nat) ≠ 12 by decide), if_true, if_false], inv_fd hI 1⟩
  by_cases h2 : wi v2 0 7 = 0
  · exact ⟨fdv 1, fdC M 1, fdM (fdC M 1) 1, by simp only [f_X10_wait, e_X10_isWithin, e_X11_isIn, e_X1_isKind, e_X10_isRater, e_X10_isPace, e_X10_isWeek, e_X10_isWorker, e_X10_isCause, e_X11_isPace, e_X11_isWeek, e_X11_isWorker, e_X11_isElement, e_X11_isJob, bE_s, bI, bM, jn, one_ne0, e_fdC1, e_fdM1, e_fdC2, e_fdM2, e_fdC3, e_fdM3, e_fdC4, e_fdM4, e_fdC5, e_fdM5, emw, h1, h2, if_true, if_false], by simp only [f_X11_wait, e_X10_isWithin, e_X11_isIn, e_X1_isKind, e_X10_isRater, e_X10_isPace, e_X10_isWeek, e_X10_isWorker, e_X10_isCause, e_X11_isPace, e_X11_isWeek, e_X11_isWorker, e_X11_isElement, e_X11_isJob, bE_s, bI, bM, jn, one_ne0, e_fdC1, e_fdM1, e_fdC2, e_fdM2, e_fdC3, e_fdM3, e_fdC4, e_fdM4, e_fdC5, e_fdM5, ew, h1, h2, fdC_at (show (11 : Nat) ≠ 12 by decide), if_true, if_false], inv_fd hI 1⟩
  by_cases h3 : wi v3 0 3 = 0
  · exact ⟨fdv 1, fdC M 1, fdM (fdC M 1) 1, by simp only [f_X10_wait, e_X10_isWithin, e_X11_isIn, e_X1_isKind, e_X10_isRater, e_X10_isPace, e_X10_isWeek, e_X10_isWorker, e_X10_isCause, e_X11_isPace, e_X11_isWeek, e_X11_isWorker, e_X11_isElement, e_X11_isJob, bE_s, bI, bM, jn, one_ne0, e_fdC1, e_fdM1, e_fdC2, e_fdM2, e_fdC3, e_fdM3, e_fdC4, e_fdM4, e_fdC5, e_fdM5, emw, h1, h2, h3, if_true, if_false], by simp only [f_X11_wait, e_X10_isWithin, e_X11_isIn, e_X1_isKind, e_X10_isRater, e_X10_isPace, e_X10_isWeek, e_X10_isWorker, e_X10_isCause, e_X11_isPace, e_X11_isWeek, e_X11_isWorker, e_X11_isElement, e_X11_isJob, bE_s, bI, bM, jn, one_ne0, e_fdC1, e_fdM1, e_fdC2, e_fdM2, e_fdC3, e_fdM3, e_fdC4, e_fdM4, e_fdC5, e_fdM5, ew, h1, h2, h3, fdC_at (show (11 : Nat) ≠ 12 by decide), if_true, if_false], inv_fd hI 1⟩
  by_cases h4 : wi v4 1 3000 = 0
  · exact ⟨fdv 1, fdC M 1, fdM (fdC M 1) 1, by simp only [f_X10_wait, e_X10_isWithin, e_X11_isIn, e_X1_isKind, e_X10_isRater, e_X10_isPace, e_X10_isWeek, e_X10_isWorker, e_X10_isCause, e_X11_isPace, e_X11_isWeek, e_X11_isWorker, e_X11_isElement, e_X11_isJob, bE_s, bI, bM, jn, one_ne0, e_fdC1, e_fdM1, e_fdC2, e_fdM2, e_fdC3, e_fdM3, e_fdC4, e_fdM4, e_fdC5, e_fdM5, emw, h1, h2, h3, h4, if_true, if_false], by simp only [f_X11_wait, e_X10_isWithin, e_X11_isIn, e_X1_isKind, e_X10_isRater, e_X10_isPace, e_X10_isWeek, e_X10_isWorker, e_X10_isCause, e_X11_isPace, e_X11_isWeek, e_X11_isWorker, e_X11_isElement, e_X11_isJob, bE_s, bI, bM, jn, one_ne0, e_fdC1, e_fdM1, e_fdC2, e_fdM2, e_fdC3, e_fdM3, e_fdC4, e_fdM4, e_fdC5, e_fdM5, ew, h1, h2, h3, h4, fdC_at (show (11 : Nat) ≠ 12 by decide), if_true, if_false], inv_fd hI 1⟩
  by_cases h5 : n = 60
  · subst h5
    exact ⟨fdv 4, fdC M 4, fdM (fdC M 4) 4, by simp only [f_X10_wait, e_X10_isWithin, e_X11_isIn, e_X1_isKind, e_X10_isRater, e_X10_isPace, e_X10_isWeek, e_X10_isWorker, e_X10_isCause, e_X11_isPace, e_X11_isWeek, e_X11_isWorker, e_X11_isElement, e_X11_isJob, bE_s, bI, bM, jn, one_ne0, e_fdC1, e_fdM1, e_fdC2, e_fdM2, e_fdC3, e_fdM3, e_fdC4, e_fdM4, e_fdC5, e_fdM5, emw, h1, h2, h3, h4, e_X7_isFull, em, show ¬ nI 60 < 60 by decide, if_true, if_false], by simp only [f_X11_wait, e_X10_isWithin, e_X11_isIn, e_X1_isKind, e_X10_isRater, e_X10_isPace, e_X10_isWeek, e_X10_isWorker, e_X10_isCause, e_X11_isPace, e_X11_isWeek, e_X11_isWorker, e_X11_isElement, e_X11_isJob, bE_s, bI, bM, jn, one_ne0, e_fdC1, e_fdM1, e_fdC2, e_fdM2, e_fdC3, e_fdM3, e_fdC4, e_fdM4, e_fdC5, e_fdM5, ew, h1, h2, h3, h4, e, show nI 60 = 60 from rfl, fdC_at (show (11 : Nat) ≠ 12 by decide), if_true, if_false], inv_fd hI 4⟩
  have hlt : nI n < 60 := nI_lt (b := 60) (by omega) (by decide)
  have hne : ¬ nI n = 60 := fun q => h5 ((nI_eq (b := 60) (by omega) (by decide)).mp q)
  obtain ⟨w, -, hw, rfl⟩ := wi_nat (lo := 0) (hi := wk) (by omega) (by decide) h1
  obtain ⟨x, -, hx, rfl⟩ := wi_nat (lo := 0) (hi := 7) (by decide) (by decide) h2
  obtain ⟨c, -, hc, rfl⟩ := wi_nat (lo := 0) (hi := 3) (by decide) (by decide) h3
  obtain ⟨m, hm0, hm, rfl⟩ := wi_nat (lo := 1) (hi := 3000) (by decide) (by decide) h4
  refine ⟨nI n + 1, up2 (up2 (up2 (up2 (up2 M 41 n (nI w)) 42 n (nI x)) 43 n (nI m)) 44 c (M.1 44 c + nI m)) 7 4 (nI n + 1), up2 (up2 (up2 (up2 (up2 (up2 (up2 (up2 (up2 (up2 M 41 n (nI w)) 42 n (nI x)) 43 n (nI m)) 44 c (M.1 44 c + nI m)) 7 4 (nI n + 1)) 89 n (nI w)) 90 n (nI x)) 91 n (nI c)) 92 n (nI m)) 11 33 (nI n + 1), ?_, ?_, ?_⟩
  · simp only [f_X10_wait, e_X7_add em (show n < 60 by omega) (show c < 4 by omega), e_X7_isFull, e_X10_isWithin, e_X11_isIn, e_X1_isKind, e_X10_isRater, e_X10_isPace, e_X10_isWeek, e_X10_isWorker, e_X10_isCause, e_X11_isPace, e_X11_isWeek, e_X11_isWorker, e_X11_isElement, e_X11_isJob, bE_s, bI, bM, jn, one_ne0, e_fdC1, e_fdM1, e_fdC2, e_fdM2, e_fdC3, e_fdM3, e_fdC4, e_fdM4, e_fdC5, e_fdM5, emw, h1, h2, h3, h4, if_false, em, hlt, if_true]
  · simp only [f_X11_wait, e_X10_isWithin, e_X11_isIn, e_X1_isKind, e_X10_isRater, e_X10_isPace, e_X10_isWeek, e_X10_isWorker, e_X10_isCause, e_X11_isPace, e_X11_isWeek, e_X11_isWorker, e_X11_isElement, e_X11_isJob, bE_s, bI, bM, jn, one_ne0, e_fdC1, e_fdM1, e_fdC2, e_fdM2, e_fdC3, e_fdM3, e_fdC4, e_fdM4, e_fdC5, e_fdM5, h2, h3, h4, if_false]
    show (if wi (nI w) 0 (M.1 11 21) = 0 then _ else if M.1 11 33 = 60 then _ else gV (M.1 11 33) 60 (gV (M.1 11 33) 60 (gV (M.1 11 33) 60 (gV (M.1 11 33) 60 (some (M.1 11 33 + 1, up2 (up2 (up2 (up2 (up2 _ 89 (M.1 11 33).toNatClampNeg (nI w)) 90 (M.1 11 33).toNatClampNeg (nI x)) 91 (M.1 11 33).toNatClampNeg (nI c)) 92 (M.1 11 33).toNatClampNeg (nI m)) 11 33 (M.1 11 33 + 1))))))) = _
    rw [ew, if_neg h1, e, if_neg hne, gV_nI (by omega) (by decide), gV_nI (by omega) (by decide), gV_nI (by omega) (by decide), gV_nI (by omega) (by decide), nI_clamp (by omega)]
  · have ha : GA (nI n + 1) (upd (M.1 89) n (nI w)) (upd (M.1 90) n (nI x)) (upd (M.1 91) n (nI c)) (upd (M.1 92) n (nI m)) (upd (M.1 44) c (M.1 44 c + nI m)) := by
      refine ⟨n + 1, by omega, nI_1 n, fun j hj => ?_, fun r hr => ?_⟩
      · by_cases q : j = n
        · subst q
          rw [upd_s, upd_s, upd_s, upd_s]
          exact ⟨⟨w, by omega, rfl⟩, ⟨x, hx, rfl⟩, ⟨c, hc, rfl⟩, ⟨m, hm0, hm, rfl⟩⟩
        · rw [upd_n q, upd_n q, upd_n q, upd_n q]
          exact hb j (by omega)
      · have t1 := hmc r hr
        have c1 : sm (fun i => if upd (M.1 91) n (nI c) i = nI r then upd (M.1 92) n (nI m) i else 0) n = sm (fun i => if M.1 91 i = nI r then M.1 92 i else 0) n := sm_congr (fun j hj => by rw [upd_n (by omega), upd_n (by omega)])
        rw [sm_succ, c1, ← t1, upd_s, upd_s]
        by_cases q : r = c
        · subst q
          rw [upd_s, if_pos rfl]
        · have q2 : ¬ nI c = nI r := fun w => q ((nI_eq (by omega) (by omega)).mp w).symm
          rw [upd_n q, if_neg q2]
          exact (Int32.add_zero _).symm
    exact ⟨⟨hI.rel.many, hI.rel.base, hI.rel.more, hI.rel.kinds, hI.rel.films, hI.rel.cycles, hI.rel.cOf, hI.rel.cBy, hI.rel.cPace, hI.rel.cTime, hI.rel.jobs, hI.rel.parts, hI.rel.pOf, hI.rel.often, hI.rel.rates, hI.rel.rOf, hI.rel.rFrom, hI.rel.worth, hI.rel.taped, hI.rel.rules, hI.rel.tape, hI.rel.rows, hI.rel.wWeek, hI.rel.wWorker, hI.rel.wJob, hI.rel.wGood, hI.rel.wSpoilt, hI.rel.wMin, hI.rel.wWat, hI.rel.began, rfl, (by show upd (M.1 41) n (nI w) = upd (M.1 89) n (nI w); rw [hI.rel.aWeek]), (by show upd (M.1 42) n (nI x) = upd (M.1 90) n (nI x); rw [hI.rel.aWorker]), (by show upd (M.1 43) n (nI m) = upd (M.1 92) n (nI m); rw [hI.rel.aMin]), hI.rel.nums, hI.rel.num, hI.rel.week, hI.rel.found⟩, hI.e, hI.f, hI.c, hI.j, hI.r, hI.m, hI.u, hI.t, hI.w, ha, hI.b, hI.n⟩
theorem st_worth {M : Mem} (hI : Inv M) (v1 v2 v3 : Int32) : ∃ (r : Int32) (M1 M2 : Mem), f_X10_worth v1 v2 v3 M = some (r, M1) ∧ f_X11_worth v1 v2 v3 M1 = some (r, M2) ∧ Inv M2 := by
  obtain ⟨n, hn, e, -⟩ := hI.r
  obtain ⟨nj, hnj, ej, hp⟩ := hI.j
  by_cases h1 : hs v1 (M.1 11 12) = 0
  · exact ⟨fdv 1, fdC M 1, fdM (fdC M 1) 1, by simp only [f_X10_worth, e_X10_isWithin, e_X11_isIn, e_X1_isKind, e_X10_isRater, e_X10_isPace, e_X10_isWeek, e_X10_isWorker, e_X10_isCause, e_X11_isPace, e_X11_isWeek, e_X11_isWorker, e_X11_isElement, e_X11_isJob, bE_s, bI, bM, jn, one_ne0, e_fdC1, e_fdM1, e_fdC2, e_fdM2, e_fdC3, e_fdM3, e_fdC4, e_fdM4, e_fdC5, e_fdM5, e_X2_has hI, h1, if_true, if_false], by simp only [f_X11_worth, e_X10_isWithin, e_X11_isIn, e_X1_isKind, e_X10_isRater, e_X10_isPace, e_X10_isWeek, e_X10_isWorker, e_X10_isCause, e_X11_isPace, e_X11_isWeek, e_X11_isWorker, e_X11_isElement, e_X11_isJob, bE_s, bI, bM, jn, one_ne0, e_fdC1, e_fdM1, e_fdC2, e_fdM2, e_fdC3, e_fdM3, e_fdC4, e_fdM4, e_fdC5, e_fdM5, e_X2_has hI, h1, fdC_at (show (11 : Nat) ≠ 12 by decide), if_true, if_false], inv_fd hI 1⟩
  by_cases h2 : wi v2 0 500 = 0
  · exact ⟨fdv 1, fdC M 1, fdM (fdC M 1) 1, by simp only [f_X10_worth, e_X10_isWithin, e_X11_isIn, e_X1_isKind, e_X10_isRater, e_X10_isPace, e_X10_isWeek, e_X10_isWorker, e_X10_isCause, e_X11_isPace, e_X11_isWeek, e_X11_isWorker, e_X11_isElement, e_X11_isJob, bE_s, bI, bM, jn, one_ne0, e_fdC1, e_fdM1, e_fdC2, e_fdM2, e_fdC3, e_fdM3, e_fdC4, e_fdM4, e_fdC5, e_fdM5, e_X2_has hI, h1, h2, if_true, if_false], by simp only [f_X11_worth, e_X10_isWithin, e_X11_isIn, e_X1_isKind, e_X10_isRater, e_X10_isPace, e_X10_isWeek, e_X10_isWorker, e_X10_isCause, e_X11_isPace, e_X11_isWeek, e_X11_isWorker, e_X11_isElement, e_X11_isJob, bE_s, bI, bM, jn, one_ne0, e_fdC1, e_fdM1, e_fdC2, e_fdM2, e_fdC3, e_fdM3, e_fdC4, e_fdM4, e_fdC5, e_fdM5, e_X2_has hI, h1, h2, fdC_at (show (11 : Nat) ≠ 12 by decide), if_true, if_false], inv_fd hI 1⟩
  have h1' := h1
  rw [ej] at h1'
  obtain ⟨j, hj, rfl⟩ := hs_nat (by omega) h1'
  obtain ⟨p, p1, p2, -⟩ := hp j (by omega)
  have ep : f_X2_partMany (nI j) M = some (nI p, M) := by
    unfold f_X2_partMany
    rw [gV_nI (show j < 8 by omega) (by decide), nI_clamp (by omega), hI.rel.parts, p2]
  have gv8 : ∀ k : Option Ret, gV (nI j) 8 k = k := fun k => gV_nI (by omega) (by decide)
  by_cases h3 : hs v3 (nI p) = 0
  · refine ⟨fdv 1, fdC M 1, fdM (fdC M 1) 1, ?_, ?_, inv_fd hI 1⟩
    · simp only [f_X10_worth, e_X2_has hI, ep, e_X10_isWithin, e_X11_isIn, e_X1_isKind, e_X10_isRater, e_X10_isPace, e_X10_isWeek, e_X10_isWorker, e_X10_isCause, e_X11_isPace, e_X11_isWeek, e_X11_isWorker, e_X11_isElement, e_X11_isJob, bE_s, bI, bM, jn, one_ne0, e_fdC1, e_fdM1, e_fdC2, e_fdM2, e_fdC3, e_fdM3, e_fdC4, e_fdM4, e_fdC5, e_fdM5, h1, h2, hs_wi (show p < 2 ^ 30 by omega), h3, if_true, if_false]
    · simp only [f_X11_worth, e_X10_isWithin, e_X11_isIn, e_X1_isKind, e_X10_isRater, e_X10_isPace, e_X10_isWeek, e_X10_isWorker, e_X10_isCause, e_X11_isPace, e_X11_isWeek, e_X11_isWorker, e_X11_isElement, e_X11_isJob, bE_s, bI, bM, jn, one_ne0, e_fdC1, e_fdM1, e_fdC2, e_fdM2, e_fdC3, e_fdM3, e_fdC4, e_fdM4, e_fdC5, e_fdM5, fdC_at (show (11 : Nat) ≠ 12 by decide), fdC_at (show (73 : Nat) ≠ 12 by decide), h1, h2, if_false, gv8, nI_clamp (show j < 2 ^ 31 by omega), p2]
      unfold hs at h3
      by_cases q : v3 < 0
      · simp only [q, if_true]
      · by_cases q2 : nI p ≤ v3
        · have q3 : ¬ v3 < nI p := fun w => by rw [i_lt] at w; rw [i_le] at q2; omega
          simp only [q, q3, if_false]
        · simp only [q, q2, if_false, one_ne0] at h3
  obtain ⟨i, hi, rfl⟩ := hs_nat (by omega) h3
  rcases lst_or (pF (M.1 77) (M.1 78) (nI j) v2) n with h4 | ⟨r, hr, h4, -⟩
  · refine ⟨fdv 2, fdC M 2, fdM (fdC M 2) 2, ?_, ?_, inv_fd hI 2⟩
    · simp only [f_X10_worth, e_X2_has hI, ep, e_X4_inForce hI hn e, e_X10_isWithin, e_X11_isIn, e_X1_isKind, e_X10_isRater, e_X10_isPace, e_X10_isWeek, e_X10_isWorker, e_X10_isCause, e_X11_isPace, e_X11_isWeek, e_X11_isWorker, e_X11_isElement, e_X11_isJob, bE_s, bI, bM, jn, one_ne0, e_fdC1, e_fdM1, e_fdC2, e_fdM2, e_fdC3, e_fdM3, e_fdC4, e_fdM4, e_fdC5, e_fdM5, h1, h2, hs_wi (show p < 2 ^ 30 by omega), h3, h4, if_true, if_false]
    · simp only [f_X11_worth, e_X10_isWithin, e_X11_isIn, e_X1_isKind, e_X10_isRater, e_X10_isPace, e_X10_isWeek, e_X10_isWorker, e_X10_isCause, e_X11_isPace, e_X11_isWeek, e_X11_isWorker, e_X11_isElement, e_X11_isJob, bE_s, bI, bM, jn, one_ne0, e_fdC1, e_fdM1, e_fdC2, e_fdM2, e_fdC3, e_fdM3, e_fdC4, e_fdM4, e_fdC5, e_fdM5, fdC_at (show (11 : Nat) ≠ 12 by decide), fdC_at (show (73 : Nat) ≠ 12 by decide), h1, h2, if_false, gv8, nI_clamp (show j < 2 ^ 31 by omega), p2, nI_pos (show i < 2 ^ 31 by omega), nI_lt hi (show p < 2 ^ 31 by omega), if_true, e_X11_forceOf (M := fdC M 2) hn e (nI j) v2, fdC_at (show (77 : Nat) ≠ 12 by decide), fdC_at (show (78 : Nat) ≠ 12 by decide), h4, m1_nge]
  · refine ⟨M.1 79 (6 * r + i), M, M, ?_, ?_, hI⟩
    · simp only [f_X10_worth, f_X4_worthOf, e_X2_has hI, ep, e_X4_inForce hI hn e, e_X10_isWithin, e_X11_isIn, e_X1_isKind, e_X10_isRater, e_X10_isPace, e_X10_isWeek, e_X10_isWorker, e_X10_isCause, e_X11_isPace, e_X11_isWeek, e_X11_isWorker, e_X11_isElement, e_X11_isJob, bE_s, bI, bM, jn, one_ne0, e_fdC1, e_fdM1, e_fdC2, e_fdM2, e_fdC3, e_fdM3, e_fdC4, e_fdM4, e_fdC5, e_fdM5, h1, h2, hs_wi (show p < 2 ^ 30 by omega), h3, h4, if_false, nI_ne_m1 (show r < 2 ^ 31 by omega), m6', gV_nI (show 6 * r + i < 240 by omega) (show (240 : Nat) < 2 ^ 31 by decide), nI_clamp (show 6 * r + i < 2 ^ 31 by omega), hI.rel.worth]
    · simp only [f_X11_worth, e_X10_isWithin, e_X11_isIn, e_X1_isKind, e_X10_isRater, e_X10_isPace, e_X10_isWeek, e_X10_isWorker, e_X10_isCause, e_X11_isPace, e_X11_isWeek, e_X11_isWorker, e_X11_isElement, e_X11_isJob, bE_s, bI, bM, jn, one_ne0, e_fdC1, e_fdM1, e_fdC2, e_fdM2, e_fdC3, e_fdM3, e_fdC4, e_fdM4, e_fdC5, e_fdM5, h1, h2, if_false, gv8, nI_clamp (show j < 2 ^ 31 by omega), p2, nI_pos (show i < 2 ^ 31 by omega), nI_lt hi (show p < 2 ^ 31 by omega), if_true, e_X11_forceOf hn e (nI j) v2, h4, ge0_nI (show r < 2 ^ 31 by omega), m6, gV_nI (show 6 * r + i < 240 by omega) (show (240 : Nat) < 2 ^ 31 by decide), nI_clamp (show 6 * r + i < 2 ^ 31 by omega)]
theorem e_X10_isOn {M : Mem} (hI : Inv M) (v : Int32) : f_X10_isOn v M = some (if v < 0 then 0 else if hs (v / 10) (M.1 11 12) = 0 then 0 else wi (v - v / 10 * 10) 0 7, M) := by
  by_cases h1 : v < 0
  · simp only [f_X10_isOn, jn, h1, if_true, gZ_0]
  · by_cases h2 : hs (v / 10) (M.1 11 12) = 0
    · simp only [f_X10_isOn, jn, h1, if_false, e_X2_has hI, bE_s, h2, if_true, gZ_0]
    · by_cases h3 : wi (v - v / 10 * 10) 0 7 = 0
      · simp only [f_X10_isOn, jn, h1, if_false, e_X2_has hI, bE_s, h2, e_X10_isWorker, h3, if_true, gZ_0]
      · have h4 : wi (v - v / 10 * 10) 0 7 = 1 := by
          obtain ⟨a, b⟩ := wi_1 h3
          unfold wi
          rw [if_neg a, if_neg b]
        simp only [f_X10_isOn, jn, h1, if_false, e_X2_has hI, bE_s, h2, e_X10_isWorker, h4, one_ne0, gZ_1]
def szv (v : Int32) : Int32 := if 0 ≤ v then v else 0 - v
def wtv (v : Int32) : Int32 := if 0 ≤ v then 0 else 1
theorem i_neg0 (x : Int32) : -x = 0 - x := by rw [Int32.zero_sub]
theorem sz_ok {v : Int32} : wi (szv v) 1 3000 = 0 ↔ (wi v 1 3000 = 0 ∧ wi v (-3000) (-1) = 0) := by
  have a1 : (1 : Int32).toInt = 1 := rfl
  have a2 : (3000 : Int32).toInt = 3000 := rfl
  have a3 : (-3000 : Int32).toInt = -3000 := rfl
  have a4 : (-1 : Int32).toInt = -1 := rfl
  have a0 : (0 : Int32).toInt = 0 := rfl
  have key : ∀ x lo hi : Int32, wi x lo hi = 0 ↔ (x.toInt < lo.toInt ∨ hi.toInt < x.toInt) := by
    intro x lo hi
    constructor
    · intro h
      rcases wi_0 h with q | q
      · exact Or.inl (i_lt.mp q)
      · exact Or.inr (i_lt.mp q)
    · intro h
      rcases Classical.em (wi x lo hi = 0) with q | q
      · exact q
      · obtain ⟨b1, b2⟩ := wi_1 q
        rcases h with w | w
        · exact absurd (i_lt.mpr w) b1
        · exact absurd (i_lt.mpr w) b2
  rw [key, key, key, a1, a2, a3, a4]
  unfold szv
  by_cases h : 0 ≤ v
  · rw [if_pos h]
    rw [i_le, a0] at h
    omega
  · rw [if_neg h]
    rw [i_le, a0] at h
    have e : (0 - v).toInt = (0 - v.toInt).bmod (2 ^ 32) := by rw [Int32.toInt_sub]; rfl
    have hb := Int32.le_toInt v
    have hb2 := Int32.toInt_lt v
    by_cases hm : v.toInt = -2147483648
    · have : v = -2147483648 := i_eq.mpr hm
      subst this
      decide
    · have e2 : (0 - v.toInt).bmod (2 ^ 32) = 0 - v.toInt := by
        apply Int.bmod_eq_of_le <;> omega
      rw [e, e2]
      omega
