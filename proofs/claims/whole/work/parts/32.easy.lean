/-! FILMS, CYCLES, KINDS, WAITING, LEARNERS, COUNTS -/
theorem sm_succ (f : Nat → Int32) (n : Nat) : sm f (n + 1) = sm f n + f n := rfl
theorem FU_pos {d : Nat} (h : d < 20000) : ∃ k : Nat, FU = k + (d + 1) := ⟨20000 - (d + 1), by show (20000 : Nat) = _; omega⟩
/-- the model's habit: the loop over the films -/
theorem l_X11_habitOf (v1 : Int32) (M : Mem) (K : Int32 → Int32 → Int32 → Mem → Option Ret) {n : Nat} (hn : n ≤ 20) (e : M.1 11 4 = nI n) : ∀ (d a k : Nat), a + d = n → f_X11_habitOf_L7 v1 (k + (d + 1)) (sm (fun j => if M.1 67 j = v1 then M.1 68 j else 0) a) (sm (fun j => if M.1 67 j = v1 then 1 else 0) a) (nI a) M K = K (sm (fun j => if M.1 67 j = v1 then M.1 68 j else 0) n) (sm (fun j => if M.1 67 j = v1 then 1 else 0) n) (nI n) M
  | 0, a, k, h => by
    have : a = n := by omega
    subst this
    rw [show k + (0 + 1) = k + 1 from rfl, f_X11_habitOf_L7]
    rw [e, if_pos (nI_le (Nat.le_refl a) (by omega))]
  | d + 1, a, k, h => by
    have ih := l_X11_habitOf v1 M K hn e d (a + 1) k (by omega)
    rw [show k + (d + 1 + 1) = (k + (d + 1)) + 1 from rfl, f_X11_habitOf_L7]
    rw [e, if_neg (nI_ge (show a < n by omega) (by omega)), gV_nI (by omega) (by decide)]
    simp only [jn, bI, gV_nI (show a < 20 by omega) (show (20 : Nat) < 2 ^ 31 by decide), nI_clamp (show a < 2 ^ 31 by omega), nI_1]
    rw [sm_succ, sm_succ] at ih
    by_cases hc : M.1 67 a = v1
    · simp only [hc, if_true] at ih ⊢
      exact ih
    · simp only [hc, if_false] at ih ⊢
      exact ih
def hab (s n : Int32) : Int32 := if n = 0 then 0 else s / n
def hbt (fo fv : Nat → Int32) (v : Int32) (n : Nat) : Int32 := hab (sm (fun j => if fo j = v then fv j else 0) n) (sm (fun j => if fo j = v then 1 else 0) n)
theorem e_X11_habitOf (v1 : Int32) (M : Mem) {n : Nat} (hn : n ≤ 20) (e : M.1 11 4 = nI n) : f_X11_habitOf v1 M = some (hbt (M.1 67) (M.1 68) v1 n, M) := by
  obtain ⟨k, hk⟩ := FU_pos (d := n) (by omega)
  unfold f_X11_habitOf
  rw [hk]
  have := l_X11_habitOf v1 M (fun w7 w8 w9 M10 => jn (α := Int32 → Option Ret) (fun (z12 : Int32) => some (z12, M10)) (fun J11 => if w8 = 0 then (J11 (0 : Int32)) else (gN w8 (J11 (w7 / w8))))) hn e n 0 k (by omega)
  refine this.trans ?_
  unfold hbt hab jn gN
  by_cases hc : sm (fun j => if M.1 67 j = v1 then 1 else 0) n = 0
  · simp only [hc, if_true]
  · simp only [hc, if_false]
/-- the class's habit -/
theorem e_X8_habitOf {M : Mem} (hI : Inv M) {r : Nat} (hr : r < 4) {n : Nat} (hn : n ≤ 20) (e : M.1 11 4 = nI n) : f_X8_habitOf (nI r) M = some (hbt (M.1 67) (M.1 68) (nI r) n, M) := by
  obtain ⟨k, hk, ek, -, h4⟩ := hI.f
  have : k = n := (nI_eq (by omega) (by omega)).mp (ek.symm.trans e)
  subst this
  obtain ⟨t1, t2⟩ := h4 r hr
  unfold f_X8_habitOf
  simp only [jn, gV_nI hr (show (4 : Nat) < 2 ^ 31 by decide), nI_clamp (show r < 2 ^ 31 by omega), t1, t2, gN, hbt, hab]
  by_cases hc : sm (fun j => if M.1 67 j = nI r then 1 else 0) k = 0
  · simp only [hc, if_true]
  · simp only [hc, if_false]
theorem st_habit {M : Mem} (hI : Inv M) (v1 : Int32) : ∃ (r : Int32) (M1 M2 : Mem), f_X10_habit v1 M = some (r, M1) ∧ f_X11_habit v1 M1 = some (r, M2) ∧ Inv M2 := by
  obtain ⟨n, hn, e, -⟩ := hI.f
  by_cases h1 : wi v1 0 3 = 0
  · exact ⟨fdv 1, fdC M 1, fdM (fdC M 1) 1, by simp only [f_X10_habit, e_X10_isWithin, e_X11_isIn, e_X1_isKind, e_X10_isRater, e_X10_isPace, e_X10_isWeek, e_X10_isWorker, e_X10_isCause, e_X11_isPace, e_X11_isWeek, e_X11_isWorker, e_X11_isElement, e_X11_isJob, bE_s, bI, bM, jn, one_ne0, e_fdC1, e_fdM1, e_fdC2, e_fdM2, e_fdC3, e_fdM3, e_fdC4, e_fdM4, e_fdC5, e_fdM5, h1, if_true, if_false], by simp only [f_X11_habit, e_X10_isWithin, e_X11_isIn, e_X1_isKind, e_X10_isRater, e_X10_isPace, e_X10_isWeek, e_X10_isWorker, e_X10_isCause, e_X11_isPace, e_X11_isWeek, e_X11_isWorker, e_X11_isElement, e_X11_isJob, bE_s, bI, bM, jn, one_ne0, e_fdC1, e_fdM1, e_fdC2, e_fdM2, e_fdC3, e_fdM3, e_fdC4, e_fdM4, e_fdC5, e_fdM5, h1, fdC_at (show (11 : Nat) ≠ 12 by decide), if_true, if_false], inv_fd hI 1⟩
  obtain ⟨x, -, hx, rfl⟩ := wi_nat (lo := 0) (hi := 3) (by decide) (by decide) h1
  refine ⟨hbt (M.1 67) (M.1 68) (nI x) n, M, M, ?_, ?_, hI⟩
  · simp only [f_X10_habit, e_X10_isWithin, e_X11_isIn, e_X1_isKind, e_X10_isRater, e_X10_isPace, e_X10_isWeek, e_X10_isWorker, e_X10_isCause, e_X11_isPace, e_X11_isWeek, e_X11_isWorker, e_X11_isElement, e_X11_isJob, bE_s, bI, bM, jn, one_ne0, e_fdC1, e_fdM1, e_fdC2, e_fdM2, e_fdC3, e_fdM3, e_fdC4, e_fdM4, e_fdC5, e_fdM5, h1, if_false, e_X8_habitOf hI (show x < 4 by omega) hn e]
  · simp only [f_X11_habit, e_X10_isWithin, e_X11_isIn, e_X1_isKind, e_X10_isRater, e_X10_isPace, e_X10_isWeek, e_X10_isWorker, e_X10_isCause, e_X11_isPace, e_X11_isWeek, e_X11_isWorker, e_X11_isElement, e_X11_isJob, bE_s, bI, bM, jn, one_ne0, e_fdC1, e_fdM1, e_fdC2, e_fdM2, e_fdC3, e_fdM3, e_fdC4, e_fdM4, e_fdC5, e_fdM5, h1, if_false, e_X11_habitOf (nI x) M hn e]
theorem upd_lt {P : Nat → Int32 → Prop} {f : Nat → Int32} {n : Nat} {x : Int32} (h : ∀ j, j < n → P j (f j)) (hx : P n x) : ∀ j, j < n + 1 → P j (upd f n x j) := by
  intro j hj
  unfold upd
  split
  · rename_i h1; rw [h1]; exact hx
  · exact h j (by omega)
theorem upd_s (f : Nat → Int32) (n : Nat) (x : Int32) : upd f n x n = x := if_pos rfl
theorem upd_n {f : Nat → Int32} {n j : Nat} {x : Int32} (h : j ≠ n) : upd f n x j = f j := if_neg h
theorem st_film {M : Mem} (hI : Inv M) (v1 v2 v3 : Int32) : ∃ (r : Int32) (M1 M2 : Mem), f_X10_film v1 v2 v3 M = some (r, M1) ∧ f_X11_film v1 v2 v3 M1 = some (r, M2) ∧ Inv M2 := by
  obtain ⟨n, hn, e, hb, h4⟩ := hI.f
  have em : M.1 2 3 = nI n := hI.rel.films.trans e
  by_cases h1 : wi v1 0 3 = 0
  · exact ⟨fdv 1, fdC M 1, fdM (fdC M 1) 1, by simp only [f_X10_film, e_X10_isWithin, e_X11_isIn, e_X1_isKind, e_X10_isRater, e_X10_isPace, e_X10_isWeek, e_X10_isWorker, e_X10_isCause, e_X11_isPace, e_X11_isWeek, e_X11_isWorker, e_X11_isElement, e_X11_isJob, bE_s, bI, bM, jn, one_ne0, e_fdC1, e_fdM1, e_fdC2, e_fdM2, e_fdC3, e_fdM3, e_fdC4, e_fdM4, e_fdC5, e_fdM5, h1, if_true, if_false], by simp only [f_X11_film, e_X10_isWithin, e_X11_isIn, e_X1_isKind, e_X10_isRater, e_X10_isPace, e_X10_isWeek, e_X10_isWorker, e_X10_isCause, e_X11_isPace, e_X11_isWeek, e_X11_isWorker, e_X11_isElement, e_X11_isJob, bE_s, bI, bM, jn, one_ne0, e_fdC1, e_fdM1, e_fdC2, e_fdM2, e_fdC3, e_fdM3, e_fdC4, e_fdM4, e_fdC5, e_fdM5, h1, fdC_at (show (11 : Nat) ≠ 12 by decide), if_true, if_false], inv_fd hI 1⟩
  by_cases h2 : wi v2 50 150 = 0
  · exact ⟨fdv 1, fdC M 1, fdM (fdC M 1) 1, by simp only [f_X10_film, e_X10_isWithin, e_X11_isIn, e_X1_isKind, e_X10_isRater, e_X10_isPace, e_X10_isWeek, e_X10_isWorker, e_X10_isCause, e_X11_isPace, e_X11_isWeek, e_X11_isWorker, e_X11_isElement, e_X11_isJob, bE_s, bI, bM, jn, one_ne0, e_fdC1, e_fdM1, e_fdC2, e_fdM2, e_fdC3, e_fdM3, e_fdC4, e_fdM4, e_fdC5, e_fdM5, h1, h2, if_true, if_false], by simp only [f_X11_film, e_X10_isWithin, e_X11_isIn, e_X1_isKind, e_X10_isRater, e_X10_isPace, e_X10_isWeek, e_X10_isWorker, e_X10_isCause, e_X11_isPace, e_X11_isWeek, e_X11_isWorker, e_X11_isElement, e_X11_isJob, bE_s, bI, bM, jn, one_ne0, e_fdC1, e_fdM1, e_fdC2, e_fdM2, e_fdC3, e_fdM3, e_fdC4, e_fdM4, e_fdC5, e_fdM5, h1, h2, fdC_at (show (11 : Nat) ≠ 12 by decide), if_true, if_false], inv_fd hI 1⟩
  by_cases h3 : wi v3 50 150 = 0
  · exact ⟨fdv 1, fdC M 1, fdM (fdC M 1) 1, by simp only [f_X10_film, e_X10_isWithin, e_X11_isIn, e_X1_isKind, e_X10_isRater, e_X10_isPace, e_X10_isWeek, e_X10_isWorker, e_X10_isCause, e_X11_isPace, e_X11_isWeek, e_X11_isWorker, e_X11_isElement, e_X11_isJob, bE_s, bI, bM, jn, one_ne0, e_fdC1, e_fdM1, e_fdC2, e_fdM2, e_fdC3, e_fdM3, e_fdC4, e_fdM4, e_fdC5, e_fdM5, h1, h2, h3, if_true, if_false], by simp only [f_X11_film, e_X10_isWithin, e_X11_isIn, e_X1_isKind, e_X10_isRater, e_X10_isPace, e_X10_isWeek, e_X10_isWorker, e_X10_isCause, e_X11_isPace, e_X11_isWeek, e_X11_isWorker, e_X11_isElement, e_X11_isJob, bE_s, bI, bM, jn, one_ne0, e_fdC1, e_fdM1, e_fdC2, e_fdM2, e_fdC3, e_fdM3, e_fdC4, e_fdM4, e_fdC5, e_fdM5, h1, h2, h3, fdC_at (show (11 : Nat) ≠ 12 by decide), if_true, if_false], inv_fd hI 1⟩
  by_cases h5 : n = 20
  · subst h5
    exact ⟨fdv 4, fdC M 4, fdM (fdC M 4) 4, by simp only [f_X10_film, e_X10_isWithin, e_X11_isIn, e_X1_isKind, e_X10_isRater, e_X10_isPace, e_X10_isWeek, e_X10_isWorker, e_X10_isCause, e_X11_isPace, e_X11_isWeek, e_X11_isWorker, e_X11_isElement, e_X11_isJob, bE_s, bI, bM, jn, one_ne0, e_fdC1, e_fdM1, e_fdC2, e_fdM2, e_fdC3, e_fdM3, e_fdC4, e_fdM4, e_fdC5, e_fdM5, h1, h2, h3, e_X8_isFullOfFilms, em, show ¬ nI 20 < 20 by decide, if_true, if_false], by simp only [f_X11_film, e_X10_isWithin, e_X11_isIn, e_X1_isKind, e_X10_isRater, e_X10_isPace, e_X10_isWeek, e_X10_isWorker, e_X10_isCause, e_X11_isPace, e_X11_isWeek, e_X11_isWorker, e_X11_isElement, e_X11_isJob, bE_s, bI, bM, jn, one_ne0, e_fdC1, e_fdM1, e_fdC2, e_fdM2, e_fdC3, e_fdM3, e_fdC4, e_fdM4, e_fdC5, e_fdM5, h1, h2, h3, e, show nI 20 = 20 from rfl, fdC_at (show (11 : Nat) ≠ 12 by decide), if_true, if_false], inv_fd hI 4⟩
  have hlt : nI n < 20 := nI_lt (b := 20) (by omega) (by decide)
  have hne : ¬ nI n = 20 := fun q => h5 ((nI_eq (b := 20) (by omega) (by decide)).mp q)
  obtain ⟨x, -, hx, rfl⟩ := wi_nat (lo := 0) (hi := 3) (by decide) (by decide) h1
  obtain ⟨y, hy0, hy, rfl⟩ := wi_nat (lo := 50) (hi := 150) (by decide) (by decide) h2
  obtain ⟨z, hz0, hz, rfl⟩ := wi_nat (lo := 50) (hi := 150) (by decide) (by decide) h3
  have hx31 : x < 2 ^ 31 := by omega
  refine ⟨nI n + 1, up2 (up2 (up2 M 15 x (M.1 15 x + (nI z - nI y))) 16 x (M.1 16 x + 1)) 2 3 (nI n + 1), up2 (up2 (up2 (up2 (up2 (up2 M 15 x (M.1 15 x + (nI z - nI y))) 16 x (M.1 16 x + 1)) 2 3 (nI n + 1)) 67 n (nI x)) 68 n (nI z - nI y)) 11 4 (nI n + 1), ?_, ?_, ?_⟩
  · simp only [f_X10_film, f_X8_addFilm, e_X8_isFullOfFilms, e_X10_isWithin, e_X11_isIn, e_X1_isKind, e_X10_isRater, e_X10_isPace, e_X10_isWeek, e_X10_isWorker, e_X10_isCause, e_X11_isPace, e_X11_isWeek, e_X11_isWorker, e_X11_isElement, e_X11_isJob, bE_s, bI, bM, jn, one_ne0, e_fdC1, e_fdM1, e_fdC2, e_fdM2, e_fdC3, e_fdM3, e_fdC4, e_fdM4, e_fdC5, e_fdM5, h1, h2, h3, if_false, em, hlt, if_true, gV_nI (show x < 4 by omega) (show (4 : Nat) < 2 ^ 31 by decide), nI_clamp hx31]
    show some (M.1 2 3 + 1, up2 (up2 (up2 M 15 x (M.1 15 x + (nI z - nI y))) 16 x (M.1 16 x + 1)) 2 3 (M.1 2 3 + 1)) = _
    rw [em]
  · simp only [f_X11_film, e_X10_isWithin, e_X11_isIn, e_X1_isKind, e_X10_isRater, e_X10_isPace, e_X10_isWeek, e_X10_isWorker, e_X10_isCause, e_X11_isPace, e_X11_isWeek, e_X11_isWorker, e_X11_isElement, e_X11_isJob, bE_s, bI, bM, jn, one_ne0, e_fdC1, e_fdM1, e_fdC2, e_fdM2, e_fdC3, e_fdM3, e_fdC4, e_fdM4, e_fdC5, e_fdM5, h1, h2, h3, if_false]
    show (if M.1 11 4 = 20 then _ else gV (M.1 11 4) 20 (gV (M.1 11 4) 20 (some (M.1 11 4 + 1, up2 (up2 (up2 _ 67 (M.1 11 4).toNatClampNeg (nI x)) 68 (M.1 11 4).toNatClampNeg (nI z - nI y)) 11 4 (M.1 11 4 + 1))))) = _
    rw [e, if_neg hne, gV_nI (by omega) (by decide), gV_nI (by omega) (by decide), nI_clamp (by omega)]
  · have hf : GF (nI n + 1) (upd (M.1 67) n (nI x)) (upd (M.1 68) n (nI z - nI y)) (upd (M.1 15) x (M.1 15 x + (nI z - nI y))) (upd (M.1 16) x (M.1 16 x + 1)) := by
      refine ⟨n + 1, by omega, nI_1 n, fun j hj => ?_, fun r hr => ?_⟩
      · by_cases q : j = n
        · subst q
          rw [upd_s, upd_s, pk_sub_toInt (by omega) (by omega)]
          exact ⟨⟨x, hx, rfl⟩, by omega, by omega⟩
        · rw [upd_n q, upd_n q]
          exact hb j (by omega)
      · obtain ⟨t1, t2⟩ := h4 r hr
        have c1 : sm (fun j => if upd (M.1 67) n (nI x) j = nI r then upd (M.1 68) n (nI z - nI y) j else 0) n = sm (fun j => if M.1 67 j = nI r then M.1 68 j else 0) n := sm_congr (fun j hj => by rw [upd_n (by omega), upd_n (by omega)])
        have c2 : sm (fun j => if upd (M.1 67) n (nI x) j = nI r then (1 : Int32) else 0) n = sm (fun j => if M.1 67 j = nI r then 1 else 0) n := sm_congr (fun j hj => by rw [upd_n (by omega)])
        rw [sm_succ, sm_succ, c1, c2, ← t1, ← t2]
        rw [upd_s, upd_s]
        by_cases q : r = x
        · subst q
          rw [upd_s, upd_s, if_pos rfl, if_pos rfl]
          exact ⟨rfl, rfl⟩
        · have q2 : ¬ nI x = nI r := fun w => q ((nI_eq (by omega) (by omega)).mp w).symm
          rw [upd_n q, upd_n q, if_neg q2, if_neg q2]
          exact ⟨(Int32.add_zero _).symm, (Int32.add_zero _).symm⟩
    exact ⟨⟨hI.rel.many, hI.rel.base, hI.rel.more, hI.rel.kinds, rfl, hI.rel.cycles, hI.rel.cOf, hI.rel.cBy, hI.rel.cPace, hI.rel.cTime, hI.rel.jobs, hI.rel.parts, hI.rel.pOf, hI.rel.often, hI.rel.rates, hI.rel.rOf, hI.rel.rFrom, hI.rel.worth, hI.rel.taped, hI.rel.rules, hI.rel.tape, hI.rel.rows, hI.rel.wWeek, hI.rel.wWorker, hI.rel.wJob, hI.rel.wGood, hI.rel.wSpoilt, hI.rel.wMin, hI.rel.wWat, hI.rel.began, hI.rel.waits, hI.rel.aWeek, hI.rel.aWorker, hI.rel.aMin, hI.rel.nums, hI.rel.num, hI.rel.week, hI.rel.found⟩, hI.e, hf, hI.c, hI.j, hI.r, hI.m, hI.u, hI.t, hI.w, hI.a, hI.b, hI.n⟩
theorem st_count {M : Mem} (hI : Inv M) (v1 : Int32) : ∃ (r : Int32) (M1 M2 : Mem), f_X10_count v1 M = some (r, M1) ∧ f_X11_count v1 M1 = some (r, M2) ∧ Inv M2 := by
  by_cases h0 : v1 = 0
  · exact ⟨M.1 11 0, M, M, by simp only [f_X10_count, h0, if_true, e_X1_many, bE_s, hI.rel.many], by simp only [f_X11_count, h0, if_true], hI⟩
  by_cases h1 : v1 = 1
  · exact ⟨M.1 11 7, M, M, by simp only [f_X10_count, show ¬ (1 : Int32) = 0 by decide, h1, if_true, if_false, e_X8_cycleMany, bE_s, hI.rel.cycles], by simp only [f_X11_count, show ¬ (1 : Int32) = 0 by decide, h1, if_true, if_false], hI⟩
  by_cases h2 : v1 = 2
  · exact ⟨M.1 11 4, M, M, by simp only [f_X10_count, show ¬ (2 : Int32) = 0 by decide, show ¬ (2 : Int32) = 1 by decide, h2, if_true, if_false, e_X8_filmMany, bE_s, hI.rel.films], by simp only [f_X11_count, show ¬ (2 : Int32) = 0 by decide, show ¬ (2 : Int32) = 1 by decide, h2, if_true, if_false], hI⟩
  by_cases h3 : v1 = 3
  · exact ⟨M.1 11 12, M, M, by simp only [f_X10_count, show ¬ (3 : Int32) = 0 by decide, show ¬ (3 : Int32) = 1 by decide, show ¬ (3 : Int32) = 2 by decide, h3, if_true, if_false, e_X2_many, bE_s, hI.rel.jobs], by simp only [f_X11_count, show ¬ (3 : Int32) = 0 by decide, show ¬ (3 : Int32) = 1 by decide, show ¬ (3 : Int32) = 2 by decide, h3, if_true, if_false], hI⟩
  by_cases h4 : v1 = 4
  · exact ⟨M.1 11 17, M, M, by simp only [f_X10_count, show ¬ (4 : Int32) = 0 by decide, show ¬ (4 : Int32) = 1 by decide, show ¬ (4 : Int32) = 2 by decide, show ¬ (4 : Int32) = 3 by decide, h4, if_true, if_false, e_X4_many, bE_s, hI.rel.rates], by simp only [f_X11_count, show ¬ (4 : Int32) = 0 by decide, show ¬ (4 : Int32) = 1 by decide, show ¬ (4 : Int32) = 2 by decide, show ¬ (4 : Int32) = 3 by decide, h4, if_true, if_false], hI⟩
  by_cases h5 : v1 = 5
  · exact ⟨M.1 11 21, M, M, by simp only [f_X10_count, show ¬ (5 : Int32) = 0 by decide, show ¬ (5 : Int32) = 1 by decide, show ¬ (5 : Int32) = 2 by decide, show ¬ (5 : Int32) = 3 by decide, show ¬ (5 : Int32) = 4 by decide, h5, if_true, if_false, bE_s, hI.rel.week], by simp only [f_X11_count, show ¬ (5 : Int32) = 0 by decide, show ¬ (5 : Int32) = 1 by decide, show ¬ (5 : Int32) = 2 by decide, show ¬ (5 : Int32) = 3 by decide, show ¬ (5 : Int32) = 4 by decide, h5, if_true, if_false], hI⟩
  by_cases h6 : v1 = 6
  · exact ⟨M.1 11 25, M, M, by simp only [f_X10_count, show ¬ (6 : Int32) = 0 by decide, show ¬ (6 : Int32) = 1 by decide, show ¬ (6 : Int32) = 2 by decide, show ¬ (6 : Int32) = 3 by decide, show ¬ (6 : Int32) = 4 by decide, show ¬ (6 : Int32) = 5 by decide, h6, if_true, if_false, e_X9_many, bE_s, hI.rel.rows], by simp only [f_X11_count, show ¬ (6 : Int32) = 0 by decide, show ¬ (6 : Int32) = 1 by decide, show ¬ (6 : Int32) = 2 by decide, show ¬ (6 : Int32) = 3 by decide, show ¬ (6 : Int32) = 4 by decide, show ¬ (6 : Int32) = 5 by decide, h6, if_true, if_false], hI⟩
  by_cases h7 : v1 = 7
  · exact ⟨M.1 11 33, M, M, by simp only [f_X10_count, show ¬ (7 : Int32) = 0 by decide, show ¬ (7 : Int32) = 1 by decide, show ¬ (7 : Int32) = 2 by decide, show ¬ (7 : Int32) = 3 by decide, show ¬ (7 : Int32) = 4 by decide, show ¬ (7 : Int32) = 5 by decide, show ¬ (7 : Int32) = 6 by decide, h7, if_true, if_false, e_X7_many, bE_s, hI.rel.waits], by simp only [f_X11_count, show ¬ (7 : Int32) = 0 by decide, show ¬ (7 : Int32) = 1 by decide, show ¬ (7 : Int32) = 2 by decide, show ¬ (7 : Int32) = 3 by decide, show ¬ (7 : Int32) = 4 by decide, show ¬ (7 : Int32) = 5 by decide, show ¬ (7 : Int32) = 6 by decide, h7, if_true, if_false], hI⟩
  by_cases h8 : v1 = 8
  · exact ⟨M.1 11 24, M, M, by simp only [f_X10_count, show ¬ (8 : Int32) = 0 by decide, show ¬ (8 : Int32) = 1 by decide, show ¬ (8 : Int32) = 2 by decide, show ¬ (8 : Int32) = 3 by decide, show ¬ (8 : Int32) = 4 by decide, show ¬ (8 : Int32) = 5 by decide, show ¬ (8 : Int32) = 6 by decide, show ¬ (8 : Int32) = 7 by decide, h8, if_true, if_false, e_X5_byteMany, bE_s, hI.rel.taped], by simp only [f_X11_count, show ¬ (8 : Int32) = 0 by decide, show ¬ (8 : Int32) = 1 by decide, show ¬ (8 : Int32) = 2 by decide, show ¬ (8 : Int32) = 3 by decide, show ¬ (8 : Int32) = 4 by decide, show ¬ (8 : Int32) = 5 by decide, show ¬ (8 : Int32) = 6 by decide, show ¬ (8 : Int32) = 7 by decide, h8, if_true, if_false], hI⟩
  by_cases h9 : v1 = 9
  · exact ⟨M.1 11 39, M, M, by simp only [f_X10_count, show ¬ (9 : Int32) = 0 by decide, show ¬ (9 : Int32) = 1 by decide, show ¬ (9 : Int32) = 2 by decide, show ¬ (9 : Int32) = 3 by decide, show ¬ (9 : Int32) = 4 by decide, show ¬ (9 : Int32) = 5 by decide, show ¬ (9 : Int32) = 6 by decide, show ¬ (9 : Int32) = 7 by decide, show ¬ (9 : Int32) = 8 by decide, h9, if_true, if_false, bE_s, hI.rel.nums], by simp only [f_X11_count, show ¬ (9 : Int32) = 0 by decide, show ¬ (9 : Int32) = 1 by decide, show ¬ (9 : Int32) = 2 by decide, show ¬ (9 : Int32) = 3 by decide, show ¬ (9 : Int32) = 4 by decide, show ¬ (9 : Int32) = 5 by decide, show ¬ (9 : Int32) = 6 by decide, show ¬ (9 : Int32) = 7 by decide, show ¬ (9 : Int32) = 8 by decide, h9, if_true, if_false], hI⟩
  exact ⟨fdv 1, fdC M 1, fdM (fdC M 1) 1, by simp only [f_X10_count, e_X10_isWithin, e_X11_isIn, e_X1_isKind, e_X10_isRater, e_X10_isPace, e_X10_isWeek, e_X10_isWorker, e_X10_isCause, e_X11_isPace, e_X11_isWeek, e_X11_isWorker, e_X11_isElement, e_X11_isJob, bE_s, bI, bM, jn, one_ne0, e_fdC1, e_fdM1, e_fdC2, e_fdM2, e_fdC3, e_fdM3, e_fdC4, e_fdM4, e_fdC5, e_fdM5, h0, h1, h2, h3, h4, h5, h6, h7, h8, h9, if_true, if_false], by simp only [f_X11_count, e_X10_isWithin, e_X11_isIn, e_X1_isKind, e_X10_isRater, e_X10_isPace, e_X10_isWeek, e_X10_isWorker, e_X10_isCause, e_X11_isPace, e_X11_isWeek, e_X11_isWorker, e_X11_isElement, e_X11_isJob, bE_s, bI, bM, jn, one_ne0, e_fdC1, e_fdM1, e_fdC2, e_fdM2, e_fdC3, e_fdM3, e_fdC4, e_fdM4, e_fdC5, e_fdM5, h0, h1, h2, h3, h4, h5, h6, h7, h8, h9, fdC_at (show (11 : Nat) ≠ 12 by decide), if_true, if_false], inv_fd hI 1⟩
