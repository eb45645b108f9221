/-! PAYS -/
def sE (M : Mem) (nr n : Nat) (who w : Int32) : Int32 := sm (fun i => if M.1 83 i = who ∧ M.1 82 i = w then erv M nr i else 0) n
def sW (M : Mem) (n : Nat) (who w : Int32) : Int32 := sm (fun i => if M.1 83 i = who ∧ M.1 82 i = w then M.1 87 i else 0) n
def sA (M : Mem) (n : Nat) (who w : Int32) : Int32 := sm (fun i => if M.1 90 i = who ∧ M.1 89 i = w then M.1 92 i else 0) n
def fwv (M : Mem) (na : Nat) (who w : Int32) : Int32 := (sA M na who w * M.1 80 2) / 100
def suv (M : Mem) (n na : Nat) (who w : Int32) : Int32 := ((sW M n who w + sA M na who w) * M.1 80 4) / 100
def alv (M : Mem) (nr n na : Nat) (who w : Int32) : Int32 := if suv M n na who w ≤ sE M nr n who w + fwv M na who w then sE M nr n who w + fwv M na who w else suv M n na who w
theorem sE_s (M : Mem) (nr n : Nat) (who w : Int32) : sE M nr (n + 1) who w = sE M nr n who w + if M.1 83 n = who ∧ M.1 82 n = w then erv M nr n else 0 := rfl
theorem sW_s (M : Mem) (n : Nat) (who w : Int32) : sW M (n + 1) who w = sW M n who w + if M.1 83 n = who ∧ M.1 82 n = w then M.1 87 n else 0 := rfl
theorem sA_s (M : Mem) (n : Nat) (who w : Int32) : sA M (n + 1) who w = sA M n who w + if M.1 90 n = who ∧ M.1 89 n = w then M.1 92 n else 0 := rfl
theorem i_a0 (x : Int32) : x + 0 = x := Int32.add_zero x
theorem l_X9_earnedIn {M : Mem} (h : Rr M) {nr n na : Nat} (hnr : nr ≤ 40) (er : M.1 11 17 = nI nr) (en : M.1 11 25 = nI n) (hn : n ≤ 100) (ea : M.1 11 33 = nI na) (hna : na ≤ 60) (who w : Int32) (K : Int32 → Int32 → Mem → Option Ret) : ∀ (d a k : Nat), a + d = n → f_X9_earnedIn_L5 w who (k + (d + 1)) (sE M nr a who w) (nI a) M K = K (sE M nr n who w) (nI n) M
  | 0, a, k, hh => by
    have : a = n := by omega
    subst this
    rw [show k + (0 + 1) = k + 1 from rfl, f_X9_earnedIn_L5, h.rows, en, if_pos (nI_le (Nat.le_refl a) (by omega))]
  | d + 1, a, k, hh => by
    have ih := l_X9_earnedIn h hnr er en hn ea hna who w K d (a + 1) k (by omega)
    rw [sE_s] at ih
    rw [show k + (d + 1 + 1) = (k + (d + 1)) + 1 from rfl, f_X9_earnedIn_L5, h.rows, en, if_neg (nI_ge (show a < n by omega) (by omega)), gV_nI (by omega) (by decide)]
    simp only [jn, gV_nI (show a < 100 by omega) (show (100 : Nat) < 2 ^ 31 by decide), nI_clamp (show a < 2 ^ 31 by omega), h.wWeek, h.wWorker, e_X9_earnedBy h hnr er en hn (show a < n by omega), bE_s, bI, nI_1]
    by_cases c1 : M.1 82 a = w
    · by_cases c2 : M.1 83 a = who
      · simp only [c1, c2, if_true, and_self] at ih ⊢; exact ih
      · simp only [c1, c2, if_true, if_false, false_and, i_a0] at ih ⊢; exact ih
    · simp only [c1, if_false, and_false, i_a0] at ih ⊢; exact ih
theorem l_X9_minutesIn {M : Mem} (h : Rr M) {nr n na : Nat} (hnr : nr ≤ 40) (er : M.1 11 17 = nI nr) (en : M.1 11 25 = nI n) (hn : n ≤ 100) (ea : M.1 11 33 = nI na) (hna : na ≤ 60) (who w : Int32) (K : Int32 → Int32 → Mem → Option Ret) : ∀ (d a k : Nat), a + d = n → f_X9_minutesIn_L5 w who (k + (d + 1)) (sW M a who w) (nI a) M K = K (sW M n who w) (nI n) M
  | 0, a, k, hh => by
    have : a = n := by omega
    subst this
    rw [show k + (0 + 1) = k + 1 from rfl, f_X9_minutesIn_L5, h.rows, en, if_pos (nI_le (Nat.le_refl a) (by omega))]
  | d + 1, a, k, hh => by
    have ih := l_X9_minutesIn h hnr er en hn ea hna who w K d (a + 1) k (by omega)
    rw [sW_s] at ih
    rw [show k + (d + 1 + 1) = (k + (d + 1)) + 1 from rfl, f_X9_minutesIn_L5, h.rows, en, if_neg (nI_ge (show a < n by omega) (by omega)), gV_nI (by omega) (by decide)]
    simp only [jn, gV_nI (show a < 100 by omega) (show (100 : Nat) < 2 ^ 31 by decide), nI_clamp (show a < 2 ^ 31 by omega), h.wWeek, h.wWorker, h.wMin, bE_s, bI, nI_1]
    by_cases c1 : M.1 82 a = w
    · by_cases c2 : M.1 83 a = who
      · simp only [c1, c2, if_true, and_self] at ih ⊢; exact ih
      · simp only [c1, c2, if_true, if_false, false_and, i_a0] at ih ⊢; exact ih
    · simp only [c1, if_false, and_false, i_a0] at ih ⊢; exact ih
theorem l_X7_minutesIn {M : Mem} (h : Rr M) {nr n na : Nat} (hnr : nr ≤ 40) (er : M.1 11 17 = nI nr) (en : M.1 11 25 = nI n) (hn : n ≤ 100) (ea : M.1 11 33 = nI na) (hna : na ≤ 60) (who w : Int32) (K : Int32 → Int32 → Mem → Option Ret) : ∀ (d a k : Nat), a + d = na → f_X7_minutesIn_L5 w who (k + (d + 1)) (sA M a who w) (nI a) M K = K (sA M na who w) (nI na) M
  | 0, a, k, hh => by
    have : a = na := by omega
    subst this
    rw [show k + (0 + 1) = k + 1 from rfl, f_X7_minutesIn_L5, h.waits, ea, if_pos (nI_le (Nat.le_refl a) (by omega))]
  | d + 1, a, k, hh => by
    have ih := l_X7_minutesIn h hnr er en hn ea hna who w K d (a + 1) k (by omega)
    rw [sA_s] at ih
    rw [show k + (d + 1 + 1) = (k + (d + 1)) + 1 from rfl, f_X7_minutesIn_L5, h.waits, ea, if_neg (nI_ge (show a < na by omega) (by omega)), gV_nI (by omega) (by decide)]
    simp only [jn, gV_nI (show a < 60 by omega) (show (60 : Nat) < 2 ^ 31 by decide), nI_clamp (show a < 2 ^ 31 by omega), h.aWeek, h.aWorker, h.aMin, bE_s, bI, nI_1]
    by_cases c1 : M.1 89 a = w
    · by_cases c2 : M.1 90 a = who
      · simp only [c1, c2, if_true, and_self] at ih ⊢; exact ih
      · simp only [c1, c2, if_true, if_false, false_and, i_a0] at ih ⊢; exact ih
    · simp only [c1, if_false, and_false, i_a0] at ih ⊢; exact ih
theorem l_X11_payOf1 {M : Mem} (h : Rr M) {nr n na : Nat} (hnr : nr ≤ 40) (er : M.1 11 17 = nI nr) (en : M.1 11 25 = nI n) (hn : n ≤ 100) (ea : M.1 11 33 = nI na) (hna : na ≤ 60) (who w what x6 : Int32) (K : Int32 → Int32 → Int32 → Mem → Option Ret) : ∀ (d a k : Nat), a + d = n → f_X11_payOf_L12 who w what x6 (k + (d + 1)) (sE M nr a who w) (sW M a who w) (nI a) M K = K (sE M nr n who w) (sW M n who w) (nI n) M
  | 0, a, k, hh => by
    have : a = n := by omega
    subst this
    rw [show k + (0 + 1) = k + 1 from rfl, f_X11_payOf_L12, en, if_pos (nI_le (Nat.le_refl a) (by omega))]
  | d + 1, a, k, hh => by
    have ih := l_X11_payOf1 h hnr er en hn ea hna who w what x6 K d (a + 1) k (by omega)
    rw [sE_s, sW_s] at ih
    rw [show k + (d + 1 + 1) = (k + (d + 1)) + 1 from rfl, f_X11_payOf_L12, en, if_neg (nI_ge (show a < n by omega) (by omega)), gV_nI (by omega) (by decide)]
    simp only [jn, gV_nI (show a < 100 by omega) (show (100 : Nat) < 2 ^ 31 by decide), nI_clamp (show a < 2 ^ 31 by omega), e_X11_earnedBy h hnr er en hn (show a < n by omega), bE_s, bI, nI_1]
    by_cases c1 : M.1 83 a = who
    · by_cases c2 : M.1 82 a = w
      · simp only [c1, c2, if_true, and_self] at ih ⊢; exact ih
      · simp only [c1, c2, if_true, if_false, and_false, i_a0] at ih ⊢; exact ih
    · simp only [c1, if_false, false_and, i_a0] at ih ⊢; exact ih
theorem l_X11_payOf2 {M : Mem} (h : Rr M) {nr n na : Nat} (hnr : nr ≤ 40) (er : M.1 11 17 = nI nr) (en : M.1 11 25 = nI n) (hn : n ≤ 100) (ea : M.1 11 33 = nI na) (hna : na ≤ 60) (who w what x4 x5 : Int32) (K : Int32 → Int32 → Mem → Option Ret) : ∀ (d a k : Nat), a + d = na → f_X11_payOf_L75 who w what x4 x5 (k + (d + 1)) (sA M a who w) (nI a) M K = K (sA M na who w) (nI na) M
  | 0, a, k, hh => by
    have : a = na := by omega
    subst this
    rw [show k + (0 + 1) = k + 1 from rfl, f_X11_payOf_L75, ea, if_pos (nI_le (Nat.le_refl a) (by omega))]
  | d + 1, a, k, hh => by
    have ih := l_X11_payOf2 h hnr er en hn ea hna who w what x4 x5 K d (a + 1) k (by omega)
    rw [sA_s] at ih
    rw [show k + (d + 1 + 1) = (k + (d + 1)) + 1 from rfl, f_X11_payOf_L75, ea, if_neg (nI_ge (show a < na by omega) (by omega)), gV_nI (by omega) (by decide)]
    simp only [jn, gV_nI (show a < 60 by omega) (show (60 : Nat) < 2 ^ 31 by decide), nI_clamp (show a < 2 ^ 31 by omega), bI, nI_1]
    by_cases c1 : M.1 90 a = who
    · by_cases c2 : M.1 89 a = w
      · simp only [c1, c2, if_true, and_self] at ih ⊢; exact ih
      · simp only [c1, c2, if_true, if_false, and_false] at ih ⊢; exact ih
    · simp only [c1, if_false, false_and] at ih ⊢; exact ih
theorem e_X9_earnedIn {M : Mem} (h : Rr M) {nr n na : Nat} (hnr : nr ≤ 40) (er : M.1 11 17 = nI nr) (en : M.1 11 25 = nI n) (hn : n ≤ 100) (ea : M.1 11 33 = nI na) (hna : na ≤ 60) (who w : Int32) : f_X9_earnedIn w who M = some (sE M nr n who w, M) := by
  obtain ⟨k, hk⟩ := FU_pos (d := n) (by omega)
  unfold f_X9_earnedIn
  rw [hk]
  exact l_X9_earnedIn h hnr er en hn ea hna who w (fun w7 w8 M9 => some (w7, M9)) n 0 k (by omega)
theorem e_X9_minutesIn {M : Mem} (h : Rr M) {nr n na : Nat} (hnr : nr ≤ 40) (er : M.1 11 17 = nI nr) (en : M.1 11 25 = nI n) (hn : n ≤ 100) (ea : M.1 11 33 = nI na) (hna : na ≤ 60) (who w : Int32) : f_X9_minutesIn w who M = some (sW M n who w, M) := by
  obtain ⟨k, hk⟩ := FU_pos (d := n) (by omega)
  unfold f_X9_minutesIn
  rw [hk]
  exact l_X9_minutesIn h hnr er en hn ea hna who w (fun w7 w8 M9 => some (w7, M9)) n 0 k (by omega)
theorem e_X7_minutesIn {M : Mem} (h : Rr M) {nr n na : Nat} (hnr : nr ≤ 40) (er : M.1 11 17 = nI nr) (en : M.1 11 25 = nI n) (hn : n ≤ 100) (ea : M.1 11 33 = nI na) (hna : na ≤ 60) (who w : Int32) : f_X7_minutesIn w who M = some (sA M na who w, M) := by
  obtain ⟨k, hk⟩ := FU_pos (d := na) (by omega)
  unfold f_X7_minutesIn
  rw [hk]
  exact l_X7_minutesIn h hnr er en hn ea hna who w (fun w7 w8 M9 => some (w7, M9)) na 0 k (by omega)
theorem e_X3_forWaiting {M : Mem} (h : Rr M) {nr n na : Nat} (hnr : nr ≤ 40) (er : M.1 11 17 = nI nr) (en : M.1 11 25 = nI n) (hn : n ≤ 100) (ea : M.1 11 33 = nI na) (hna : na ≤ 60) (who w : Int32) : f_X3_forWaiting who w M = some (fwv M na who w, M) := by
  simp only [f_X3_forWaiting, f_X5_valueOf, e_X7_minutesIn h hnr er en hn ea hna, bE_s, gv2, cl2, h.rules]
  rfl
theorem mx_eq (x y : Int32) : (if x < y then y else x) = if x ≤ y then y else x := by
  by_cases q : x < y
  · rw [if_pos q, if_pos]
    rw [i_lt] at q
    rw [i_le]
    omega
  · rw [if_neg q]
    by_cases q2 : x ≤ y
    · rw [if_pos q2, i_eq]
      rw [i_lt] at q
      rw [i_le] at q2
      omega
    · rw [if_neg q2]
theorem e_X3_allOf {M : Mem} (h : Rr M) {nr n na : Nat} (hnr : nr ≤ 40) (er : M.1 11 17 = nI nr) (en : M.1 11 25 = nI n) (hn : n ≤ 100) (ea : M.1 11 33 = nI na) (hna : na ≤ 60) (who w : Int32) : f_X3_allOf who w M = some (alv M nr n na who w, M) := by
  simp only [f_X3_allOf, f_X5_valueOf, e_X7_minutesIn h hnr er en hn ea hna, e_X9_minutesIn h hnr er en hn ea hna, e_X9_earnedIn h hnr er en hn ea hna, e_X3_forWaiting h hnr er en hn ea hna, bE_s, bI, gv4, cl4, h.rules, mx_eq]
  rfl
def pav (M : Mem) (nr n na : Nat) (who w what : Int32) : Int32 := if what = 0 then alv M nr n na who w else if what = 1 then sE M nr n who w else if what = 2 then fwv M na who w else if what = 3 then sW M n who w else sA M na who w
theorem e_X11_payOf {M : Mem} (h : Rr M) {nr n na : Nat} (hnr : nr ≤ 40) (er : M.1 11 17 = nI nr) (en : M.1 11 25 = nI n) (hn : n ≤ 100) (ea : M.1 11 33 = nI na) (hna : na ≤ 60) (who w what : Int32) : f_X11_payOf who w what M = some (pav M nr n na who w what, M) := by
  obtain ⟨k, hk⟩ := FU_pos (d := n) (by omega)
  obtain ⟨k2, hk2⟩ := FU_pos (d := na) (by omega)
  unfold f_X11_payOf
  rw [hk]
  refine (l_X11_payOf1 h hnr er en hn ea hna who w what 0 _ n 0 k (by omega)).trans ?_
  rw [← hk, hk2]
  refine (l_X11_payOf2 h hnr er en hn ea hna who w what _ _ _ na 0 k2 (by omega)).trans ?_
  simp only [gv2, cl2, gv4, cl4, bI, jn_ite]
  unfold pav
  by_cases c0 : what = 0
  · simp only [c0, if_true]; rfl
  · by_cases c1 : what = 1
    · simp only [c1, if_true, show ¬ (1 : Int32) = 0 by decide, if_false]
    · by_cases c2 : what = 2
      · simp only [c2, if_true, show ¬ (2 : Int32) = 0 by decide, show ¬ (2 : Int32) = 1 by decide, if_false]; rfl
      · by_cases c3 : what = 3
        · simp only [c3, if_true, show ¬ (3 : Int32) = 0 by decide, show ¬ (3 : Int32) = 1 by decide, show ¬ (3 : Int32) = 2 by decide, if_false]
        · simp only [c0, c1, c2, c3, if_false]
theorem e_X3_tellOf {M : Mem} (h : Rr M) {nr n na : Nat} (hnr : nr ≤ 40) (er : M.1 11 17 = nI nr) (en : M.1 11 25 = nI n) (hn : n ≤ 100) (ea : M.1 11 33 = nI na) (hna : na ≤ 60) (who w : Int32) {what : Nat} (hw : what ≤ 4) : f_X3_tellOf who w (nI what) M = some (pav M nr n na who w (nI what), M) := by
  rcases (show what = 0 ∨ what = 1 ∨ what = 2 ∨ what = 3 ∨ what = 4 by omega) with rfl | rfl | rfl | rfl | rfl
  · simp only [f_X3_tellOf, e_X3_allOf h hnr er en hn ea hna, bE_s, show ¬ nI 0 = 1 by decide, show ¬ nI 0 = 2 by decide, show ¬ nI 0 = 3 by decide, show ¬ nI 0 = 4 by decide, if_false]; rfl
  · simp only [f_X3_tellOf, e_X9_earnedIn h hnr er en hn ea hna, bE_s, show nI 1 = 1 from rfl, if_true]; rfl
  · simp only [f_X3_tellOf, e_X3_forWaiting h hnr er en hn ea hna, bE_s, show ¬ nI 2 = 1 by decide, show nI 2 = 2 from rfl, if_true, if_false]; rfl
  · simp only [f_X3_tellOf, e_X9_minutesIn h hnr er en hn ea hna, bE_s, show ¬ nI 3 = 1 by decide, show ¬ nI 3 = 2 by decide, show nI 3 = 3 from rfl, if_true, if_false]; rfl
  · simp only [f_X3_tellOf, e_X7_minutesIn h hnr er en hn ea hna, bE_s, show ¬ nI 4 = 1 by decide, show ¬ nI 4 = 2 by decide, show ¬ nI 4 = 3 by decide, show nI 4 = 4 from rfl, if_true, if_false]; rfl
theorem st_pay {M : Mem} (hI : Inv M) (v1 v2 v3 : Int32) : ∃ (r : Int32) (M1 M2 : Mem), f_X10_pay v1 v2 v3 M = some (r, M1) ∧ f_X11_pay v1 v2 v3 M1 = some (r, M2) ∧ Inv M2 := by
  obtain ⟨nr, hnr, er, -⟩ := hI.r
  obtain ⟨n, hn, en, -⟩ := hI.w
  obtain ⟨na, hna, ea, -⟩ := hI.a
  by_cases h1 : wi v1 0 7 = 0
  · exact ⟨fdv 1, fdC M 1, fdM (fdC M 1) 1, by simp only [f_X10_pay, e_X10_isWithin, e_X11_isIn, e_X1_isKind, e_X10_isRater, e_X10_isPace, e_X10_isWeek, e_X10_isWorker, e_X10_isCause, e_X11_isPace, e_X11_isWeek, e_X11_isWorker, e_X11_isElement, e_X11_isJob, bE_s, bI, bM, jn, one_ne0, e_fdC1, e_fdM1, e_fdC2, e_fdM2, e_fdC3, e_fdM3, e_fdC4, e_fdM4, e_fdC5, e_fdM5, h1, if_true, if_false], by simp only [f_X11_pay, e_X10_isWithin, e_X11_isIn, e_X1_isKind, e_X10_isRater, e_X10_isPace, e_X10_isWeek, e_X10_isWorker, e_X10_isCause, e_X11_isPace, e_X11_isWeek, e_X11_isWorker, e_X11_isElement, e_X11_isJob, bE_s, bI, bM, jn, one_ne0, e_fdC1, e_fdM1, e_fdC2, e_fdM2, e_fdC3, e_fdM3, e_fdC4, e_fdM4, e_fdC5, e_fdM5, h1, fdC_at (show (11 : Nat) ≠ 12 by decide), if_true, if_false], inv_fd hI 1⟩
  by_cases h2 : wi v2 0 500 = 0
  · exact ⟨fdv 1, fdC M 1, fdM (fdC M 1) 1, by simp only [f_X10_pay, e_X10_isWithin, e_X11_isIn, e_X1_isKind, e_X10_isRater, e_X10_isPace, e_X10_isWeek, e_X10_isWorker, e_X10_isCause, e_X11_isPace, e_X11_isWeek, e_X11_isWorker, e_X11_isElement, e_X11_isJob, bE_s, bI, bM, jn, one_ne0, e_fdC1, e_fdM1, e_fdC2, e_fdM2, e_fdC3, e_fdM3, e_fdC4, e_fdM4, e_fdC5, e_fdM5, h1, h2, if_true, if_false], by simp only [f_X11_pay, e_X10_isWithin, e_X11_isIn, e_X1_isKind, e_X10_isRater, e_X10_isPace, e_X10_isWeek, e_X10_isWorker, e_X10_isCause, e_X11_isPace, e_X11_isWeek, e_X11_isWorker, e_X11_isElement, e_X11_isJob, bE_s, bI, bM, jn, one_ne0, e_fdC1, e_fdM1, e_fdC2, e_fdM2, e_fdC3, e_fdM3, e_fdC4, e_fdM4, e_fdC5, e_fdM5, h1, h2, fdC_at (show (11 : Nat) ≠ 12 by decide), if_true, if_false], inv_fd hI 1⟩
  by_cases h3 : wi v3 0 4 = 0
  · exact ⟨fdv 1, fdC M 1, fdM (fdC M 1) 1, by simp only [f_X10_pay, e_X10_isWithin, e_X11_isIn, e_X1_isKind, e_X10_isRater, e_X10_isPace, e_X10_isWeek, e_X10_isWorker, e_X10_isCause, e_X11_isPace, e_X11_isWeek, e_X11_isWorker, e_X11_isElement, e_X11_isJob, bE_s, bI, bM, jn, one_ne0, e_fdC1, e_fdM1, e_fdC2, e_fdM2, e_fdC3, e_fdM3, e_fdC4, e_fdM4, e_fdC5, e_fdM5, h1, h2, h3, if_true, if_false], by simp only [f_X11_pay, e_X10_isWithin, e_X11_isIn, e_X1_isKind, e_X10_isRater, e_X10_isPace, e_X10_isWeek, e_X10_isWorker, e_X10_isCause, e_X11_isPace, e_X11_isWeek, e_X11_isWorker, e_X11_isElement, e_X11_isJob, bE_s, bI, bM, jn, one_ne0, e_fdC1, e_fdM1, e_fdC2, e_fdM2, e_fdC3, e_fdM3, e_fdC4, e_fdM4, e_fdC5, e_fdM5, h1, h2, h3, fdC_at (show (11 : Nat) ≠ 12 by decide), if_true, if_false], inv_fd hI 1⟩
  obtain ⟨x, -, hx, rfl⟩ := wi_nat (lo := 0) (hi := 4) (by decide) (by decide) h3
  refine ⟨pav M nr n na v1 v2 (nI x), M, M, ?_, ?_, hI⟩
  · simp only [f_X10_pay, e_X10_isWithin, e_X11_isIn, e_X1_isKind, e_X10_isRater, e_X10_isPace, e_X10_isWeek, e_X10_isWorker, e_X10_isCause, e_X11_isPace, e_X11_isWeek, e_X11_isWorker, e_X11_isElement, e_X11_isJob, bE_s, bI, bM, jn, one_ne0, e_fdC1, e_fdM1, e_fdC2, e_fdM2, e_fdC3, e_fdM3, e_fdC4, e_fdM4, e_fdC5, e_fdM5, h1, h2, h3, if_false, e_X3_tellOf hI.rr hnr er en hn ea hna v1 v2 hx]
  · simp only [f_X11_pay, e_X10_isWithin, e_X11_isIn, e_X1_isKind, e_X10_isRater, e_X10_isPace, e_X10_isWeek, e_X10_isWorker, e_X10_isCause, e_X11_isPace, e_X11_isWeek, e_X11_isWorker, e_X11_isElement, e_X11_isJob, bE_s, bI, bM, jn, one_ne0, e_fdC1, e_fdM1, e_fdC2, e_fdM2, e_fdC3, e_fdM3, e_fdC4, e_fdM4, e_fdC5, e_fdM5, h1, h2, h3, if_false, e_X11_payOf hI.rr hnr er en hn ea hna]
def chk (num al : Nat → Int32) : Nat → Nat → Int32
  | 0, _ => 0
  | d + 1, x => if num x = al x then chk num al d (x + 1) else 1 + nI x
theorem l_X10_check {M : Mem} (h : Rr M) {nr n na : Nat} (hnr : nr ≤ 40) (er : M.1 11 17 = nI nr) (en : M.1 11 25 = nI n) (hn : n ≤ 100) (ea : M.1 11 33 = nI na) (hna : na ≤ 60) (w : Int32) {m : Nat} (hm : m ≤ 8) : ∀ (d a k : Nat), a + d = m → f_X10_check_L25 w (nI m) (k + (d + 1)) (nI a) M (fun w7 M8 => some ((0 : Int32), M8)) = some (chk (M.1 13) (fun i => alv M nr n na (nI i) w) d a, M)
  | 0, a, k, hh => by
    have : a = m := by omega
    subst this
    rw [show k + (0 + 1) = k + 1 from rfl, f_X10_check_L25, if_pos (nI_le (Nat.le_refl a) (by omega))]
    rfl
  | d + 1, a, k, hh => by
    have ih := l_X10_check h hnr er en hn ea hna w hm d (a + 1) k (by omega)
    rw [show k + (d + 1 + 1) = (k + (d + 1)) + 1 from rfl, f_X10_check_L25, if_neg (nI_ge (show a < m by omega) (by omega)), gV_nI (by omega) (by decide), e_X3_allOf h hnr er en hn ea hna, bE_s, nI_clamp (by omega), nI_1, ih]
    show _ = some (if M.1 13 a = alv M nr n na (nI a) w then _ else _, M)
    by_cases c : M.1 13 a = alv M nr n na (nI a) w
    · rw [if_pos c, if_pos c]
    · rw [if_neg c, if_neg c]
theorem l_X11_check {M : Mem} (h : Rr M) {nr n na : Nat} (hnr : nr ≤ 40) (er : M.1 11 17 = nI nr) (en : M.1 11 25 = nI n) (hn : n ≤ 100) (ea : M.1 11 33 = nI na) (hna : na ≤ 60) (w : Int32) {m : Nat} (hm : m ≤ 8) : ∀ (d a k : Nat), a + d = m → f_X11_check_L25 w (nI m) (k + (d + 1)) (nI a) M (fun w7 M8 => some ((0 : Int32), M8)) = some (chk (M.1 94) (fun i => alv M nr n na (nI i) w) d a, M)
  | 0, a, k, hh => by
    have : a = m := by omega
    subst this
    rw [show k + (0 + 1) = k + 1 from rfl, f_X11_check_L25, if_pos (nI_le (Nat.le_refl a) (by omega))]
    rfl
  | d + 1, a, k, hh => by
    have ih := l_X11_check h hnr er en hn ea hna w hm d (a + 1) k (by omega)
    rw [show k + (d + 1 + 1) = (k + (d + 1)) + 1 from rfl, f_X11_check_L25, if_neg (nI_ge (show a < m by omega) (by omega)), gV_nI (by omega) (by decide), e_X11_payOf h hnr er en hn ea hna, bE_s, nI_clamp (by omega), nI_1, ih]
    show (if M.1 94 a = alv M nr n na (nI a) w then _ else _) = some (if M.1 94 a = alv M nr n na (nI a) w then _ else _, M)
    by_cases c : M.1 94 a = alv M nr n na (nI a) w
    · rw [if_pos c, if_pos c]
    · rw [if_neg c, if_neg c]
theorem st_check {M : Mem} (hI : Inv M) (v1 : Int32) : ∃ (r : Int32) (M1 M2 : Mem), f_X10_check v1 M = some (r, M1) ∧ f_X11_check v1 M1 = some (r, M2) ∧ Inv M2 := by
  obtain ⟨nr, hnr, er, -⟩ := hI.r
  obtain ⟨n, hn, en, -⟩ := hI.w
  obtain ⟨na, hna, ea, -⟩ := hI.a
  obtain ⟨m, hm, emm⟩ := hI.n.1
  have em : M.1 0 12 = nI m := hI.rel.nums.trans emm
  by_cases h1 : wi v1 0 500 = 0
  · refine ⟨fdv 1, fdC (up2 M 0 12 0) 1, fdM (up2 (fdC (up2 M 0 12 0) 1) 11 39 0) 1, ?_, ?_, ?_⟩
    · simp only [f_X10_check, e_X10_isWithin, e_X11_isIn, e_X1_isKind, e_X10_isRater, e_X10_isPace, e_X10_isWeek, e_X10_isWorker, e_X10_isCause, e_X11_isPace, e_X11_isWeek, e_X11_isWorker, e_X11_isElement, e_X11_isJob, bE_s, bI, bM, jn, one_ne0, e_fdC1, e_fdM1, e_fdC2, e_fdM2, e_fdC3, e_fdM3, e_fdC4, e_fdM4, e_fdC5, e_fdM5, h1, if_true]
    · simp only [f_X11_check, e_X10_isWithin, e_X11_isIn, e_X1_isKind, e_X10_isRater, e_X10_isPace, e_X10_isWeek, e_X10_isWorker, e_X10_isCause, e_X11_isPace, e_X11_isWeek, e_X11_isWorker, e_X11_isElement, e_X11_isJob, bE_s, bI, bM, jn, one_ne0, e_fdC1, e_fdM1, e_fdC2, e_fdM2, e_fdC3, e_fdM3, e_fdC4, e_fdM4, e_fdC5, e_fdM5, h1, if_true]
    · exact ⟨⟨hI.rel.many, hI.rel.base, hI.rel.more, hI.rel.kinds, hI.rel.films, hI.rel.cycles, hI.rel.cOf, hI.rel.cBy, hI.rel.cPace, hI.rel.cTime, hI.rel.jobs, hI.rel.parts, hI.rel.pOf, hI.rel.often, hI.rel.rates, hI.rel.rOf, hI.rel.rFrom, hI.rel.worth, hI.rel.taped, hI.rel.rules, hI.rel.tape, hI.rel.rows, hI.rel.wWeek, hI.rel.wWorker, hI.rel.wJob, hI.rel.wGood, hI.rel.wSpoilt, hI.rel.wMin, hI.rel.wWat, hI.rel.began, hI.rel.waits, hI.rel.aWeek, hI.rel.aWorker, hI.rel.aMin, rfl, hI.rel.num, hI.rel.week, (by show upd (M.1 12) 1 (M.1 12 1 + 1) = upd (M.1 95) 1 (M.1 95 1 + 1); rw [hI.rel.found])⟩, hI.e, hI.f, hI.c, hI.j, hI.r, hI.m, hI.u, hI.t, hI.w, hI.a, hI.b, ⟨isN_0 _, hI.n.2⟩⟩
  · obtain ⟨k, hk⟩ := FU_pos (d := m) (by omega)
    have hR : Rr (up2 M 0 12 0) := hI.rr
    have hR2 : Rr (up2 (up2 M 0 12 0) 11 39 0) := hI.rr
    refine ⟨chk (M.1 94) (fun i => alv M nr n na (nI i) v1) m 0, up2 M 0 12 0, up2 (up2 M 0 12 0) 11 39 0, ?_, ?_, ?_⟩
    · simp only [f_X10_check, e_X10_isWithin, e_X11_isIn, e_X1_isKind, e_X10_isRater, e_X10_isPace, e_X10_isWeek, e_X10_isWorker, e_X10_isCause, e_X11_isPace, e_X11_isWeek, e_X11_isWorker, e_X11_isElement, e_X11_isJob, bE_s, bI, bM, jn, one_ne0, e_fdC1, e_fdM1, e_fdC2, e_fdM2, e_fdC3, e_fdM3, e_fdC4, e_fdM4, e_fdC5, e_fdM5, h1, if_false, em]
      rw [hk]
      refine (l_X10_check hR hnr er en hn ea hna v1 hm m 0 k (by omega)).trans ?_
      rw [show (up2 M 0 12 0).1 13 = M.1 94 from hI.rel.num]
      rfl
    · simp only [f_X11_check, e_X10_isWithin, e_X11_isIn, e_X1_isKind, e_X10_isRater, e_X10_isPace, e_X10_isWeek, e_X10_isWorker, e_X10_isCause, e_X11_isPace, e_X11_isWeek, e_X11_isWorker, e_X11_isElement, e_X11_isJob, bE_s, bI, bM, jn, one_ne0, e_fdC1, e_fdM1, e_fdC2, e_fdM2, e_fdC3, e_fdM3, e_fdC4, e_fdM4, e_fdC5, e_fdM5, h1, if_false]
      rw [show (up2 M 0 12 0).1 11 39 = nI m from emm, hk]
      exact l_X11_check hR2 hnr er en hn ea hna v1 hm m 0 k (by omega)
    · exact ⟨⟨hI.rel.many, hI.rel.base, hI.rel.more, hI.rel.kinds, hI.rel.films, hI.rel.cycles, hI.rel.cOf, hI.rel.cBy, hI.rel.cPace, hI.rel.cTime, hI.rel.jobs, hI.rel.parts, hI.rel.pOf, hI.rel.often, hI.rel.rates, hI.rel.rOf, hI.rel.rFrom, hI.rel.worth, hI.rel.taped, hI.rel.rules, hI.rel.tape, hI.rel.rows, hI.rel.wWeek, hI.rel.wWorker, hI.rel.wJob, hI.rel.wGood, hI.rel.wSpoilt, hI.rel.wMin, hI.rel.wWat, hI.rel.began, hI.rel.waits, hI.rel.aWeek, hI.rel.aWorker, hI.rel.aMin, rfl, hI.rel.num, hI.rel.week, hI.rel.found⟩, hI.e, hI.f, hI.c, hI.j, hI.r, hI.m, hI.u, hI.t, hI.w, hI.a, hI.b, ⟨isN_0 _, hI.n.2⟩⟩
