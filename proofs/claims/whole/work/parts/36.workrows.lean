/-! WORK, PARTS, CHANGES -/
theorem jn_ite {α : Type} {c : Prop} [Decidable c] (K : α → Option Ret) (x y : α) : jn (α := α → Option Ret) K (fun J => if c then J x else J y) = K (if c then x else y) := by
  unfold jn
  by_cases h : c
  · simp only [h, if_true]
  · simp only [h, if_false]
theorem szv_i (v : Int32) : (if 0 ≤ v then v else -v) = szv v := by rw [i_neg0]; rfl
theorem szv_c (v : Int32) : (if 0 ≤ v then v else 0 - v) = szv v := rfl
theorem wtv_i (v : Int32) : (if 0 ≤ v then (0 : Int32) else 1) = wtv v := rfl
theorem wtv_or (v : Int32) : wtv v = 0 ∨ wtv v = 1 := by
  unfold wtv
  by_cases h : 0 ≤ v
  · exact Or.inl (if_pos h)
  · exact Or.inr (if_neg h)
theorem wtv_and (v : Int32) : wtv v &&& 1 = wtv v := by
  rcases wtv_or v with h | h <;> rw [h] <;> decide
theorem wi_one {v lo hi : Int32} (h : ¬ wi v lo hi = 0) : wi v lo hi = 1 := by
  obtain ⟨a, b⟩ := wi_1 h
  unfold wi
  rw [if_neg a, if_neg b]
theorem e_X9_add {M : Mem} {n : Nat} (em : M.1 6 10 = nI n) (hn : n < 100) (v1 v2 v3 v4 : Int32) : f_X9_add v1 v2 v3 v4 M = some (nI n, up2 (up2 (up2 (up2 (up2 (up2 (up2 (up2 M 33 n v1) 34 n (v2 - v2 / 10 * 10)) 35 n (v2 / 10)) 36 n (v3 / 1000)) 37 n (v3 - v3 / 1000 * 1000)) 38 n (szv v4)) 39 n (wtv v4)) 6 10 (nI n + 1)) := by
  unfold f_X9_add
  simp only [jn_ite, wtv_i, wtv_and, bM]
  show gV (M.1 6 10) 100 (gV (M.1 6 10) 100 (gV (M.1 6 10) 100 (gV (M.1 6 10) 100 (gV (M.1 6 10) 100 (gV (M.1 6 10) 100 (gV (M.1 6 10) 100 (some (M.1 6 10 + 1 - 1, up2 (up2 (up2 (up2 (up2 (up2 (up2 (up2 M 33 (M.1 6 10).toNatClampNeg v1) 34 (M.1 6 10).toNatClampNeg (v2 - v2 / 10 * 10)) 35 (M.1 6 10).toNatClampNeg (v2 / 10)) 36 (M.1 6 10).toNatClampNeg (v3 / 1000)) 37 (M.1 6 10).toNatClampNeg (v3 - v3 / 1000 * 1000)) 38 (M.1 6 10).toNatClampNeg (szv v4)) 39 (M.1 6 10).toNatClampNeg (wtv v4)) 6 10 (M.1 6 10 + 1))))))))) = _
  rw [em, gV_nI (by omega) (by decide), gV_nI (by omega) (by decide), gV_nI (by omega) (by decide), gV_nI (by omega) (by decide), gV_nI (by omega) (by decide), gV_nI (by omega) (by decide), gV_nI (by omega) (by decide),  nI_clamp (by omega), i_add1]
theorem m_work {M : Mem} {n nr r : Nat} {v1 v2 v3 v4 wk nj : Int32} (e : M.1 11 25 = nI n) (hn : n < 100) (er : M.1 11 17 = nI nr) (hnr : nr ≤ 40) (ew : M.1 11 21 = wk) (ej : M.1 11 12 = nj) (h1 : ¬ wi v1 0 wk = 0) (h2 : ¬ v2 < 0) (h3 : ¬ hs (v2 / 10) nj = 0) (h4 : ¬ wi (v2 - v2 / 10 * 10) 0 7 = 0) (h5 : ¬ wi v3 0 999999 = 0) (h6 : ¬ wi (szv v4) 1 3000 = 0) (h7 : lst (pF (M.1 77) (M.1 78) (v2 / 10) v1) nr = nI r) (hr : r < 40) : f_X11_work v1 v2 v3 v4 M = some (nI n, up2 (up2 (up2 (up2 (up2 (up2 (up2 (up2 M 82 n v1) 84 n (v2 / 10)) 83 n (v2 - v2 / 10 * 10)) 85 n (v3 / 1000)) 86 n (v3 - v3 / 1000 * 1000)) 87 n (szv v4)) 88 n (wtv v4)) 11 25 (nI n + 1)) := by
  have hne : ¬ nI n = 100 := fun q => absurd ((nI_eq (b := 100) (by omega) (by decide)).mp q) (by omega)
  unfold f_X11_work
  simp only [e_X10_isWithin, e_X11_isIn, e_X1_isKind, e_X10_isRater, e_X10_isPace, e_X10_isWeek, e_X10_isWorker, e_X10_isCause, e_X11_isPace, e_X11_isWeek, e_X11_isWorker, e_X11_isElement, e_X11_isJob, bE_s, bI, bM, jn_ite, one_ne0, e_fdC1, e_fdM1, e_fdC2, e_fdM2, e_fdC3, e_fdM3, e_fdC4, e_fdM4, e_fdC5, e_fdM5, szv_i, ew, h1, h2, ej, h3, h4, h5, h6, if_false, e_X11_forceOf hnr er, h7, ge0_nI (show r < 2 ^ 31 by omega), if_true, wtv_i, wtv_and]
  show (if M.1 11 25 = 100 then _ else gV (M.1 11 25) 100 (gV (M.1 11 25) 100 (gV (M.1 11 25) 100 (gV (M.1 11 25) 100 (gV (M.1 11 25) 100 (gV (M.1 11 25) 100 (gV (M.1 11 25) 100 (some (M.1 11 25 + 1 - 1, up2 (up2 (up2 (up2 (up2 (up2 (up2 (up2 M 82 (M.1 11 25).toNatClampNeg v1) 84 (M.1 11 25).toNatClampNeg (v2 / 10)) 83 (M.1 11 25).toNatClampNeg (v2 - v2 / 10 * 10)) 85 (M.1 11 25).toNatClampNeg (v3 / 1000)) 86 (M.1 11 25).toNatClampNeg (v3 - v3 / 1000 * 1000)) 87 (M.1 11 25).toNatClampNeg (szv v4)) 88 (M.1 11 25).toNatClampNeg (wtv v4)) 11 25 (M.1 11 25 + 1)))))))))) = _
  rw [e, if_neg hne, gV_nI (by omega) (by decide), gV_nI (by omega) (by decide), gV_nI (by omega) (by decide), gV_nI (by omega) (by decide), gV_nI (by omega) (by decide), gV_nI (by omega) (by decide), gV_nI (by omega) (by decide),  nI_clamp (by omega), i_add1]
theorem st_work {M : Mem} (hI : Inv M) (v1 v2 v3 v4 : Int32) : ∃ (r : Int32) (M1 M2 : Mem), f_X10_work v1 v2 v3 v4 M = some (r, M1) ∧ f_X11_work v1 v2 v3 v4 M1 = some (r, M2) ∧ Inv M2 := by
  obtain ⟨n, hn, e, hb⟩ := hI.w
  obtain ⟨nr, hnr, er, -⟩ := hI.r
  obtain ⟨wk, hwk, ew⟩ := hI.n.2
  obtain ⟨nj, hnj, ej, -⟩ := hI.j
  have em : M.1 6 10 = nI n := hI.rel.rows.trans e
  have emw : M.1 0 13 = nI wk := hI.rel.week.trans ew
  by_cases h1 : wi v1 0 (nI wk) = 0
  · exact ⟨fdv 1, fdC M 1, fdM (fdC M 1) 1, by simp only [f_X10_work, e_X10_isWithin, e_X11_isIn, e_X1_isKind, e_X10_isRater, e_X10_isPace, e_X10_isWeek, e_X10_isWorker, e_X10_isCause, e_X11_isPace, e_X11_isWeek, e_X11_isWorker, e_X11_isElement, e_X11_isJob, bE_s, bI, bM, jn_ite, one_ne0, e_fdC1, e_fdM1, e_fdC2, e_fdM2, e_fdC3, e_fdM3, e_fdC4, e_fdM4, e_fdC5, e_fdM5, emw, h1, if_true, if_false], by simp only [f_X11_work, e_X10_isWithin, e_X11_isIn, e_X1_isKind, e_X10_isRater, e_X10_isPace, e_X10_isWeek, e_X10_isWorker, e_X10_isCause, e_X11_isPace, e_X11_isWeek, e_X11_isWorker, e_X11_isElement, e_X11_isJob, bE_s, bI, bM, jn_ite, one_ne0, e_fdC1, e_fdM1, e_fdC2, e_fdM2, e_fdC3, e_fdM3, e_fdC4, e_fdM4, e_fdC5, e_fdM5, szv_i, ew, h1, fdC_at (show (11 : Nat) ≠ 12 by decide), if_true, if_false], inv_fd hI 1⟩
  by_cases h2 : v2 < 0
  · exact ⟨fdv 1, fdC M 1, fdM (fdC M 1) 1, by simp only [f_X10_work, e_X10_isWithin, e_X11_isIn, e_X1_isKind, e_X10_isRater, e_X10_isPace, e_X10_isWeek, e_X10_isWorker, e_X10_isCause, e_X11_isPace, e_X11_isWeek, e_X11_isWorker, e_X11_isElement, e_X11_isJob, bE_s, bI, bM, jn_ite, one_ne0, e_fdC1, e_fdM1, e_fdC2, e_fdM2, e_fdC3, e_fdM3, e_fdC4, e_fdM4, e_fdC5, e_fdM5, emw, h1, e_X10_isOn hI, h2, if_true, if_false], by simp only [f_X11_work, e_X10_isWithin, e_X11_isIn, e_X1_isKind, e_X10_isRater, e_X10_isPace, e_X10_isWeek, e_X10_isWorker, e_X10_isCause, e_X11_isPace, e_X11_isWeek, e_X11_isWorker, e_X11_isElement, e_X11_isJob, bE_s, bI, bM, jn_ite, one_ne0, e_fdC1, e_fdM1, e_fdC2, e_fdM2, e_fdC3, e_fdM3, e_fdC4, e_fdM4, e_fdC5, e_fdM5, szv_i, ew, h1, h2, fdC_at (show (11 : Nat) ≠ 12 by decide), if_true, if_false], inv_fd hI 1⟩
  by_cases h3 : hs (v2 / 10) (M.1 11 12) = 0
  · exact ⟨fdv 1, fdC M 1, fdM (fdC M 1) 1, by simp only [f_X10_work, e_X10_isWithin, e_X11_isIn, e_X1_isKind, e_X10_isRater, e_X10_isPace, e_X10_isWeek, e_X10_isWorker, e_X10_isCause, e_X11_isPace, e_X11_isWeek, e_X11_isWorker, e_X11_isElement, e_X11_isJob, bE_s, bI, bM, jn_ite, one_ne0, e_fdC1, e_fdM1, e_fdC2, e_fdM2, e_fdC3, e_fdM3, e_fdC4, e_fdM4, e_fdC5, e_fdM5, emw, h1, e_X10_isOn hI, h2, h3, if_true, if_false], by simp only [f_X11_work, e_X10_isWithin, e_X11_isIn, e_X1_isKind, e_X10_isRater, e_X10_isPace, e_X10_isWeek, e_X10_isWorker, e_X10_isCause, e_X11_isPace, e_X11_isWeek, e_X11_isWorker, e_X11_isElement, e_X11_isJob, bE_s, bI, bM, jn_ite, one_ne0, e_fdC1, e_fdM1, e_fdC2, e_fdM2, e_fdC3, e_fdM3, e_fdC4, e_fdM4, e_fdC5, e_fdM5, szv_i, ew, h1, h2, h3, fdC_at (show (11 : Nat) ≠ 12 by decide), if_true, if_false], inv_fd hI 1⟩
  by_cases h4 : wi (v2 - v2 / 10 * 10) 0 7 = 0
  · exact ⟨fdv 1, fdC M 1, fdM (fdC M 1) 1, by simp only [f_X10_work, e_X10_isWithin, e_X11_isIn, e_X1_isKind, e_X10_isRater, e_X10_isPace, e_X10_isWeek, e_X10_isWorker, e_X10_isCause, e_X11_isPace, e_X11_isWeek, e_X11_isWorker, e_X11_isElement, e_X11_isJob, bE_s, bI, bM, jn_ite, one_ne0, e_fdC1, e_fdM1, e_fdC2, e_fdM2, e_fdC3, e_fdM3, e_fdC4, e_fdM4, e_fdC5, e_fdM5, emw, h1, e_X10_isOn hI, h2, h3, h4, if_true, if_false], by simp only [f_X11_work, e_X10_isWithin, e_X11_isIn, e_X1_isKind, e_X10_isRater, e_X10_isPace, e_X10_isWeek, e_X10_isWorker, e_X10_isCause, e_X11_isPace, e_X11_isWeek, e_X11_isWorker, e_X11_isElement, e_X11_isJob, bE_s, bI, bM, jn_ite, one_ne0, e_fdC1, e_fdM1, e_fdC2, e_fdM2, e_fdC3, e_fdM3, e_fdC4, e_fdM4, e_fdC5, e_fdM5, szv_i, ew, h1, h2, h3, h4, fdC_at (show (11 : Nat) ≠ 12 by decide), if_true, if_false], inv_fd hI 1⟩
  have h4' := wi_one h4
  by_cases h5 : wi v3 0 999999 = 0
  · exact ⟨fdv 1, fdC M 1, fdM (fdC M 1) 1, by simp only [f_X10_work, e_X10_isWithin, e_X11_isIn, e_X1_isKind, e_X10_isRater, e_X10_isPace, e_X10_isWeek, e_X10_isWorker, e_X10_isCause, e_X11_isPace, e_X11_isWeek, e_X11_isWorker, e_X11_isElement, e_X11_isJob, bE_s, bI, bM, jn_ite, one_ne0, e_fdC1, e_fdM1, e_fdC2, e_fdM2, e_fdC3, e_fdM3, e_fdC4, e_fdM4, e_fdC5, e_fdM5, emw, h1, e_X10_isOn hI, h2, h3, h4', h5, if_true, if_false], by simp only [f_X11_work, e_X10_isWithin, e_X11_isIn, e_X1_isKind, e_X10_isRater, e_X10_isPace, e_X10_isWeek, e_X10_isWorker, e_X10_isCause, e_X11_isPace, e_X11_isWeek, e_X11_isWorker, e_X11_isElement, e_X11_isJob, bE_s, bI, bM, jn_ite, one_ne0, e_fdC1, e_fdM1, e_fdC2, e_fdM2, e_fdC3, e_fdM3, e_fdC4, e_fdM4, e_fdC5, e_fdM5, szv_i, ew, h1, h2, h3, h4, h5, fdC_at (show (11 : Nat) ≠ 12 by decide), if_true, if_false], inv_fd hI 1⟩
  by_cases h6 : wi (szv v4) 1 3000 = 0
  · obtain ⟨h6a, h6b⟩ := sz_ok.mp h6
    exact ⟨fdv 1, fdC M 1, fdM (fdC M 1) 1, by simp only [f_X10_work, e_X10_isWithin, e_X11_isIn, e_X1_isKind, e_X10_isRater, e_X10_isPace, e_X10_isWeek, e_X10_isWorker, e_X10_isCause, e_X11_isPace, e_X11_isWeek, e_X11_isWorker, e_X11_isElement, e_X11_isJob, bE_s, bI, bM, jn_ite, one_ne0, e_fdC1, e_fdM1, e_fdC2, e_fdM2, e_fdC3, e_fdM3, e_fdC4, e_fdM4, e_fdC5, e_fdM5, emw, h1, e_X10_isOn hI, h2, h3, h4', h5, h6a, h6b, if_true, if_false], by simp only [f_X11_work, e_X10_isWithin, e_X11_isIn, e_X1_isKind, e_X10_isRater, e_X10_isPace, e_X10_isWeek, e_X10_isWorker, e_X10_isCause, e_X11_isPace, e_X11_isWeek, e_X11_isWorker, e_X11_isElement, e_X11_isJob, bE_s, bI, bM, jn_ite, one_ne0, e_fdC1, e_fdM1, e_fdC2, e_fdM2, e_fdC3, e_fdM3, e_fdC4, e_fdM4, e_fdC5, e_fdM5, szv_i, ew, h1, h2, h3, h4, h5, h6, fdC_at (show (11 : Nat) ≠ 12 by decide), if_true, if_false], inv_fd hI 1⟩
  rcases lst_or (pF (M.1 77) (M.1 78) (v2 / 10) v1) nr with h7 | ⟨r, hr, h7, h7'⟩
  · refine ⟨fdv 2, fdC M 2, fdM (fdC M 2) 2, ?_, ?_, inv_fd hI 2⟩
    · by_cases q : wi v4 1 3000 = 0
      · have q2 : ¬ wi v4 (-3000) (-1) = 0 := fun w => h6 (sz_ok.mpr ⟨q, w⟩)
        simp only [f_X10_work, e_X10_isOn hI, e_X10_isWithin, e_X11_isIn, e_X1_isKind, e_X10_isRater, e_X10_isPace, e_X10_isWeek, e_X10_isWorker, e_X10_isCause, e_X11_isPace, e_X11_isWeek, e_X11_isWorker, e_X11_isElement, e_X11_isJob, bE_s, bI, bM, jn_ite, one_ne0, e_fdC1, e_fdM1, e_fdC2, e_fdM2, e_fdC3, e_fdM3, e_fdC4, e_fdM4, e_fdC5, e_fdM5, emw, h1, h2, h3, h4', h5, q, q2, if_true, if_false, e_X4_inForce hI hnr er, h7]
      · simp only [f_X10_work, e_X10_isOn hI, e_X10_isWithin, e_X11_isIn, e_X1_isKind, e_X10_isRater, e_X10_isPace, e_X10_isWeek, e_X10_isWorker, e_X10_isCause, e_X11_isPace, e_X11_isWeek, e_X11_isWorker, e_X11_isElement, e_X11_isJob, bE_s, bI, bM, jn_ite, one_ne0, e_fdC1, e_fdM1, e_fdC2, e_fdM2, e_fdC3, e_fdM3, e_fdC4, e_fdM4, e_fdC5, e_fdM5, emw, h1, h2, h3, h4', h5, q, if_true, if_false, e_X4_inForce hI hnr er, h7]
    · have h7b : lst (pF ((fdC M 2).1 77) ((fdC M 2).1 78) (v2 / 10) v1) nr = -1 := h7
      simp only [f_X11_work, e_X10_isWithin, e_X11_isIn, e_X1_isKind, e_X10_isRater, e_X10_isPace, e_X10_isWeek, e_X10_isWorker, e_X10_isCause, e_X11_isPace, e_X11_isWeek, e_X11_isWorker, e_X11_isElement, e_X11_isJob, bE_s, bI, bM, jn_ite, one_ne0, e_fdC1, e_fdM1, e_fdC2, e_fdM2, e_fdC3, e_fdM3, e_fdC4, e_fdM4, e_fdC5, e_fdM5, szv_i, fdC_at (show (11 : Nat) ≠ 12 by decide), ew, h1, h2, h3, h4, h5, h6, if_false, e_X11_forceOf (M := fdC M 2) hnr er, h7b, m1_nge]
  by_cases h8 : n = 100
  · subst h8
    have hF : f_X9_isFull M = some (1, M) := by rw [e_X9_isFull, em]; rfl
    refine ⟨fdv 4, fdC M 4, fdM (fdC M 4) 4, ?_, ?_, inv_fd hI 4⟩
    · by_cases q : wi v4 1 3000 = 0
      · have q2 : ¬ wi v4 (-3000) (-1) = 0 := fun w => h6 (sz_ok.mpr ⟨q, w⟩)
        simp only [f_X10_work, e_X10_isOn hI, e_X10_isWithin, e_X11_isIn, e_X1_isKind, e_X10_isRater, e_X10_isPace, e_X10_isWeek, e_X10_isWorker, e_X10_isCause, e_X11_isPace, e_X11_isWeek, e_X11_isWorker, e_X11_isElement, e_X11_isJob, bE_s, bI, bM, jn_ite, one_ne0, e_fdC1, e_fdM1, e_fdC2, e_fdM2, e_fdC3, e_fdM3, e_fdC4, e_fdM4, e_fdC5, e_fdM5, emw, h1, h2, h3, h4', h5, q, q2, if_true, if_false, e_X4_inForce hI hnr er, h7, nI_ne_m1 (show r < 2 ^ 31 by omega), hF]
      · simp only [f_X10_work, e_X10_isOn hI, e_X10_isWithin, e_X11_isIn, e_X1_isKind, e_X10_isRater, e_X10_isPace, e_X10_isWeek, e_X10_isWorker, e_X10_isCause, e_X11_isPace, e_X11_isWeek, e_X11_isWorker, e_X11_isElement, e_X11_isJob, bE_s, bI, bM, jn_ite, one_ne0, e_fdC1, e_fdM1, e_fdC2, e_fdM2, e_fdC3, e_fdM3, e_fdC4, e_fdM4, e_fdC5, e_fdM5, emw, h1, h2, h3, h4', h5, q, if_true, if_false, e_X4_inForce hI hnr er, h7, nI_ne_m1 (show r < 2 ^ 31 by omega), hF]
    · have h7b : lst (pF ((fdC M 4).1 77) ((fdC M 4).1 78) (v2 / 10) v1) nr = nI r := h7
      simp only [f_X11_work, e_X10_isWithin, e_X11_isIn, e_X1_isKind, e_X10_isRater, e_X10_isPace, e_X10_isWeek, e_X10_isWorker, e_X10_isCause, e_X11_isPace, e_X11_isWeek, e_X11_isWorker, e_X11_isElement, e_X11_isJob, bE_s, bI, bM, jn_ite, one_ne0, e_fdC1, e_fdM1, e_fdC2, e_fdM2, e_fdC3, e_fdM3, e_fdC4, e_fdM4, e_fdC5, e_fdM5, szv_i, fdC_at (show (11 : Nat) ≠ 12 by decide), ew, h1, h2, h3, h4, h5, h6, if_false, e_X11_forceOf (M := fdC M 4) hnr er, h7b, ge0_nI (show r < 2 ^ 31 by omega), if_true, e, show nI 100 = 100 from rfl]
  have hF : f_X9_isFull M = some (0, M) := by rw [e_X9_isFull, em, if_pos (show nI n < 100 from nI_lt (b := 100) (by omega) (by decide))]
  refine ⟨nI n, up2 (up2 (up2 (up2 (up2 (up2 (up2 (up2 M 33 n v1) 34 n (v2 - v2 / 10 * 10)) 35 n (v2 / 10)) 36 n (v3 / 1000)) 37 n (v3 - v3 / 1000 * 1000)) 38 n (szv v4)) 39 n (wtv v4)) 6 10 (nI n + 1), up2 (up2 (up2 (up2 (up2 (up2 (up2 (up2 (up2 (up2 (up2 (up2 (up2 (up2 (up2 (up2 M 33 n v1) 34 n (v2 - v2 / 10 * 10)) 35 n (v2 / 10)) 36 n (v3 / 1000)) 37 n (v3 - v3 / 1000 * 1000)) 38 n (szv v4)) 39 n (wtv v4)) 6 10 (nI n + 1)) 82 n v1) 84 n (v2 / 10)) 83 n (v2 - v2 / 10 * 10)) 85 n (v3 / 1000)) 86 n (v3 - v3 / 1000 * 1000)) 87 n (szv v4)) 88 n (wtv v4)) 11 25 (nI n + 1), ?_, ?_, ?_⟩
  · by_cases q : wi v4 1 3000 = 0
    · have q2 : ¬ wi v4 (-3000) (-1) = 0 := fun w => h6 (sz_ok.mpr ⟨q, w⟩)
      simp only [f_X10_work, e_X10_isOn hI, e_X10_isWithin, e_X11_isIn, e_X1_isKind, e_X10_isRater, e_X10_isPace, e_X10_isWeek, e_X10_isWorker, e_X10_isCause, e_X11_isPace, e_X11_isWeek, e_X11_isWorker, e_X11_isElement, e_X11_isJob, bE_s, bI, bM, jn_ite, one_ne0, e_fdC1, e_fdM1, e_fdC2, e_fdM2, e_fdC3, e_fdM3, e_fdC4, e_fdM4, e_fdC5, e_fdM5, emw, h1, h2, h3, h4', h5, q, q2, if_true, if_false, e_X4_inForce hI hnr er, h7, nI_ne_m1 (show r < 2 ^ 31 by omega), hF, e_X9_add em (show n < 100 by omega)]
    · simp only [f_X10_work, e_X10_isOn hI, e_X10_isWithin, e_X11_isIn, e_X1_isKind, e_X10_isRater, e_X10_isPace, e_X10_isWeek, e_X10_isWorker, e_X10_isCause, e_X11_isPace, e_X11_isWeek, e_X11_isWorker, e_X11_isElement, e_X11_isJob, bE_s, bI, bM, jn_ite, one_ne0, e_fdC1, e_fdM1, e_fdC2, e_fdM2, e_fdC3, e_fdM3, e_fdC4, e_fdM4, e_fdC5, e_fdM5, emw, h1, h2, h3, h4', h5, q, if_true, if_false, e_X4_inForce hI hnr er, h7, nI_ne_m1 (show r < 2 ^ 31 by omega), hF, e_X9_add em (show n < 100 by omega)]
  · exact m_work e (by omega) er hnr ew ej h1 h2 (by rw [← ej]; exact h3) h4 h5 h6 h7 (by omega)
  · obtain ⟨w, -, hw, rfl⟩ := wi_nat (lo := 0) (hi := wk) (by omega) (by decide) h1
    obtain ⟨on, hon, rfl⟩ := nI_of h2
    obtain ⟨p, -, hp, rfl⟩ := wi_nat (lo := 0) (hi := 999999) (by decide) (by decide) h5
    obtain ⟨m, hm0, hm, em4⟩ := wi_nat (lo := 1) (hi := 3000) (by decide) (by decide) h6
    have d1 : nI on / 10 = nI (on / 10) := pk_div (d := 10) hon (by decide) (by decide)
    have d2 : nI on - nI on / 10 * 10 = nI (on % 10) := pk_rem (d := 10) hon (by decide) (by decide)
    have d3 : nI p / 1000 = nI (p / 1000) := pk_div (d := 1000) (by omega) (by decide) (by decide)
    have d4 : nI p - nI p / 1000 * 1000 = nI (p % 1000) := pk_rem (d := 1000) (by omega) (by decide) (by decide)
    rw [d1, ej] at h3
    rw [d2] at h4
    obtain ⟨jj, hj, ejj⟩ := hs_nat (by omega) h3
    have : on / 10 = jj := (nI_eq (by omega) (by omega)).mp ejj
    obtain ⟨xx, -, hx, exx⟩ := wi_nat (lo := 0) (hi := 7) (by decide) (by decide) h4
    have : on % 10 = xx := (nI_eq (by omega) (by omega)).mp exx
    have hw' : GW (M.1 11 17) (M.1 77) (M.1 78) (nI n + 1) (upd (M.1 82) n (nI w)) (upd (M.1 83) n (nI on - nI on / 10 * 10)) (upd (M.1 84) n (nI on / 10)) (upd (M.1 85) n (nI p / 1000)) (upd (M.1 86) n (nI p - nI p / 1000 * 1000)) (upd (M.1 87) n (szv v4)) (upd (M.1 88) n (wtv v4)) := by
      refine ⟨n + 1, by omega, nI_1 n, fun i hi => ?_⟩
      by_cases q : i = n
      · subst q
        rw [upd_s, upd_s, upd_s, upd_s, upd_s, upd_s, upd_s, d2, d4, d1, d3]
        refine ⟨⟨w, by omega, rfl⟩, ⟨on % 10, by omega, rfl⟩, ⟨on / 10, by omega, rfl⟩, ⟨p / 1000, by omega, rfl⟩, ⟨p % 1000, by omega, rfl⟩, ⟨m, hm0, hm, em4⟩, wtv_or v4, r, ?_, ?_, ?_⟩
        · rw [er, nI_clamp (by omega)]; exact hr
        · rw [← d1]; exact (pF_i.mp h7').1
        · have t := (pF_i.mp h7').2
          rw [i_lt] at t
          rw [i_le]
          omega
      · rw [upd_n q, upd_n q, upd_n q, upd_n q, upd_n q, upd_n q, upd_n q]
        exact hb i (by omega)
    exact ⟨⟨hI.rel.many, hI.rel.base, hI.rel.more, hI.rel.kinds, hI.rel.films, hI.rel.cycles, hI.rel.cOf, hI.rel.cBy, hI.rel.cPace, hI.rel.cTime, hI.rel.jobs, hI.rel.parts, hI.rel.pOf, hI.rel.often, hI.rel.rates, hI.rel.rOf, hI.rel.rFrom, hI.rel.worth, hI.rel.taped, hI.rel.rules, hI.rel.tape, rfl, (by show upd (M.1 33) n _ = upd (M.1 82) n _; rw [hI.rel.wWeek]), (by show upd (M.1 34) n _ = upd (M.1 83) n _; rw [hI.rel.wWorker]), (by show upd (M.1 35) n _ = upd (M.1 84) n _; rw [hI.rel.wJob]), (by show upd (M.1 36) n _ = upd (M.1 85) n _; rw [hI.rel.wGood]), (by show upd (M.1 37) n _ = upd (M.1 86) n _; rw [hI.rel.wSpoilt]), (by show upd (M.1 38) n _ = upd (M.1 87) n _; rw [hI.rel.wMin]), (by show upd (M.1 39) n _ = upd (M.1 88) n _; rw [hI.rel.wWat]), hI.rel.began, hI.rel.waits, hI.rel.aWeek, hI.rel.aWorker, hI.rel.aMin, hI.rel.nums, hI.rel.num, hI.rel.week, hI.rel.found⟩, hI.e, hI.f, hI.c, hI.j, hI.r, hI.m, hI.u, hI.t, hw', hI.a, hI.b, hI.n⟩
