/-! SCANS OF THE RATES -/
def lst (p : Nat → Bool) : Nat → Int32
  | 0 => -1
  | n + 1 => if p n = true then nI n else lst p n
theorem lst_or (p : Nat → Bool) : ∀ n : Nat, lst p n = -1 ∨ ∃ r : Nat, r < n ∧ lst p n = nI r ∧ p r = true
  | 0 => Or.inl rfl
  | n + 1 => by
    by_cases h : p n = true
    · exact Or.inr ⟨n, Nat.lt_succ_self n, if_pos h, h⟩
    · have e : lst p (n + 1) = lst p n := if_neg h
      rw [e]
      rcases lst_or p n with h1 | ⟨r, h1, h2, h3⟩
      · exact Or.inl h1
      · exact Or.inr ⟨r, by omega, h2, h3⟩
theorem lst_none {p : Nat → Bool} : ∀ {n : Nat}, (∀ r, r < n → ¬ p r = true) → lst p n = -1
  | 0, _ => rfl
  | n + 1, h => by
    show (if p n = true then nI n else lst p n) = -1
    rw [if_neg (h n (Nat.lt_succ_self n))]
    exact lst_none (fun r hr => h r (Nat.lt_succ_of_lt hr))
theorem nI_ne_m1 {r : Nat} (h : r < 2 ^ 31) : ¬ nI r = -1 := by
  intro q
  rw [i_eq, nI_toInt h] at q
  have : (-1 : Int32).toInt = -1 := rfl
  omega
theorem lst_some {p : Nat → Bool} {n r : Nat} (hn : n < 2 ^ 31) (hr : r < n) (h : p r = true) : ¬ lst p n = -1 := by
  induction n with
  | zero => omega
  | succ n ih =>
    show ¬ (if p n = true then nI n else lst p n) = -1
    by_cases q : p n = true
    · rw [if_pos q]; exact nI_ne_m1 (by omega)
    · rw [if_neg q]
      refine ih (by omega) ?_
      rcases Nat.lt_or_ge r n with w | w
      · exact w
      · have : r = n := by omega
        subst this
        exact absurd h q
theorem lst_congr {p q : Nat → Bool} : ∀ {n : Nat}, (∀ r, r < n → p r = q r) → lst p n = lst q n
  | 0, _ => rfl
  | n + 1, h => by
    show (if p n = true then nI n else lst p n) = (if q n = true then nI n else lst q n)
    rw [h n (Nat.lt_succ_self n), lst_congr (fun r hr => h r (Nat.lt_succ_of_lt hr))]
theorem m1_neg : (-1 : Int32) < 0 := by decide
theorem i_pm1 (x : Int32) : x + (-1) = x - 1 := by rw [Int32.sub_eq_add_neg]
theorem i_0m1 : nI 0 - 1 = -1 := rfl
def pL (ro : Nat → Int32) (v : Int32) : Nat → Bool := fun r => decide (ro r = v)
def pF (ro rf : Nat → Int32) (v w : Int32) : Nat → Bool := fun r => decide (ro r = v ∧ ¬ w < rf r)
theorem pL_i {ro : Nat → Int32} {v : Int32} {r : Nat} : pL ro v r = true ↔ ro r = v := decide_eq_true_iff
theorem pF_i {ro rf : Nat → Int32} {v w : Int32} {r : Nat} : pF ro rf v w r = true ↔ ro r = v ∧ ¬ w < rf r := decide_eq_true_iff
theorem l_X4_latestOf (v : Int32) (M : Mem) : ∀ (a k : Nat), a ≤ 40 → f_X4_latestOf_L7 v (k + (a + 1)) (nI a - 1) M (fun w2 M3 => some ((-1 : Int32), M3)) = some (lst (pL (M.1 26) v) a, M)
  | 0, k, h => by
    rw [show k + (0 + 1) = k + 1 from rfl, f_X4_latestOf_L7, i_0m1, if_pos m1_neg]
    rfl
  | a + 1, k, h => by
    have ih := l_X4_latestOf v M a k (by omega)
    rw [show k + (a + 1 + 1) = (k + (a + 1)) + 1 from rfl, f_X4_latestOf_L7, nI_pred, if_neg (nI_pos (by omega)), gV_nI (by omega) (by decide), nI_clamp (by omega), i_pm1]
    show _ = some (if pL (M.1 26) v a = true then nI a else lst (pL (M.1 26) v) a, M)
    by_cases hc : M.1 26 a = v
    · rw [if_pos hc, if_pos (pL_i.mpr hc)]
    · rw [if_neg hc, if_neg (fun q => hc (pL_i.mp q)), ih]
theorem l_X4_inForce (v w : Int32) (M : Mem) : ∀ (a k : Nat), a ≤ 40 → f_X4_inForce_L7 v w (k + (a + 1)) (nI a - 1) M (fun w2 M3 => some ((-1 : Int32), M3)) = some (lst (pF (M.1 26) (M.1 27) v w) a, M)
  | 0, k, h => by
    rw [show k + (0 + 1) = k + 1 from rfl, f_X4_inForce_L7, i_0m1, if_pos m1_neg]
    rfl
  | a + 1, k, h => by
    have ih := l_X4_inForce v w M a k (by omega)
    rw [show k + (a + 1 + 1) = (k + (a + 1)) + 1 from rfl, f_X4_inForce_L7, nI_pred, if_neg (nI_pos (by omega)), gV_nI (by omega) (by decide), gV_nI (by omega) (by decide), nI_clamp (by omega), i_pm1]
    show _ = some (if pF (M.1 26) (M.1 27) v w a = true then nI a else lst (pF (M.1 26) (M.1 27) v w) a, M)
    by_cases hc : M.1 26 a = v
    · rw [if_pos hc]
      by_cases hd : w < M.1 27 a
      · rw [if_pos hd, if_neg (fun q => (pF_i.mp q).2 hd), ih]
      · rw [if_neg hd, if_pos (pF_i.mpr ⟨hc, hd⟩)]
    · rw [if_neg hc, if_neg (fun q => hc (pF_i.mp q).1), ih]
theorem l_X11_latestOf (v : Int32) (M : Mem) (K : Int32 → Int32 → Mem → Option Ret) {n : Nat} (hn : n ≤ 40) (e : M.1 11 17 = nI n) : ∀ (d a k : Nat), a + d = n → f_X11_latestOf_L4 v (k + (d + 1)) (lst (pL (M.1 77) v) a) (nI a) M K = K (lst (pL (M.1 77) v) n) (nI n) M
  | 0, a, k, h => by
    have : a = n := by omega
    subst this
    rw [show k + (0 + 1) = k + 1 from rfl, f_X11_latestOf_L4, e, if_pos (nI_le (Nat.le_refl a) (by omega))]
  | d + 1, a, k, h => by
    have ih := l_X11_latestOf v M K hn e d (a + 1) k (by omega)
    rw [show k + (d + 1 + 1) = (k + (d + 1)) + 1 from rfl, f_X11_latestOf_L4, e, if_neg (nI_ge (show a < n by omega) (by omega)), gV_nI (by omega) (by decide), nI_clamp (by omega), nI_1]
    simp only [jn]
    have e1 : lst (pL (M.1 77) v) (a + 1) = if M.1 77 a = v then nI a else lst (pL (M.1 77) v) a := by
      show (if pL (M.1 77) v a = true then nI a else lst (pL (M.1 77) v) a) = _
      by_cases hc : M.1 77 a = v
      · rw [if_pos hc, if_pos (pL_i.mpr hc)]
      · rw [if_neg hc, if_neg (fun q => hc (pL_i.mp q))]
    rw [e1] at ih
    by_cases hc : M.1 77 a = v
    · rw [if_pos hc] at ih ⊢; exact ih
    · rw [if_neg hc] at ih ⊢; exact ih
theorem l_X11_forceOf (v w : Int32) (M : Mem) (K : Int32 → Int32 → Mem → Option Ret) {n : Nat} (hn : n ≤ 40) (e : M.1 11 17 = nI n) : ∀ (d a k : Nat), a + d = n → f_X11_forceOf_L5 v w (k + (d + 1)) (lst (pF (M.1 77) (M.1 78) v w) a) (nI a) M K = K (lst (pF (M.1 77) (M.1 78) v w) n) (nI n) M
  | 0, a, k, h => by
    have : a = n := by omega
    subst this
    rw [show k + (0 + 1) = k + 1 from rfl, f_X11_forceOf_L5, e, if_pos (nI_le (Nat.le_refl a) (by omega))]
  | d + 1, a, k, h => by
    have ih := l_X11_forceOf v w M K hn e d (a + 1) k (by omega)
    rw [show k + (d + 1 + 1) = (k + (d + 1)) + 1 from rfl, f_X11_forceOf_L5, e, if_neg (nI_ge (show a < n by omega) (by omega)), gV_nI (by omega) (by decide)]
    simp only [jn, gV_nI (show a < 40 by omega) (show (40 : Nat) < 2 ^ 31 by decide), nI_clamp (show a < 2 ^ 31 by omega), nI_1]
    have e1 : lst (pF (M.1 77) (M.1 78) v w) (a + 1) = if pF (M.1 77) (M.1 78) v w a = true then nI a else lst (pF (M.1 77) (M.1 78) v w) a := rfl
    rw [e1] at ih
    by_cases hc : M.1 77 a = v
    · rw [if_pos hc]
      by_cases hd : w < M.1 78 a
      · rw [if_neg (fun q => (pF_i.mp q).2 hd)] at ih
        rw [if_pos hd]; exact ih
      · rw [if_pos (pF_i.mpr ⟨hc, hd⟩)] at ih
        rw [if_neg hd]; exact ih
    · rw [if_neg (fun q => hc (pF_i.mp q).1)] at ih
      rw [if_neg hc]; exact ih
theorem e_X4_latestOf {M : Mem} (hI : Inv M) {n : Nat} (hn : n ≤ 40) (e : M.1 11 17 = nI n) (v : Int32) : f_X4_latestOf v M = some (lst (pL (M.1 77) v) n, M) := by
  obtain ⟨k, hk⟩ := FU_pos (d := n) (by omega)
  unfold f_X4_latestOf bI
  rw [hI.rel.rates, e, hk]
  refine (l_X4_latestOf v M n k hn).trans ?_
  rw [hI.rel.rOf]
theorem e_X4_inForce {M : Mem} (hI : Inv M) {n : Nat} (hn : n ≤ 40) (e : M.1 11 17 = nI n) (v w : Int32) : f_X4_inForce v w M = some (lst (pF (M.1 77) (M.1 78) v w) n, M) := by
  obtain ⟨k, hk⟩ := FU_pos (d := n) (by omega)
  unfold f_X4_inForce bI
  rw [hI.rel.rates, e, hk]
  refine (l_X4_inForce v w M n k hn).trans ?_
  rw [hI.rel.rOf, hI.rel.rFrom]
theorem e_X11_latestOf {M : Mem} {n : Nat} (hn : n ≤ 40) (e : M.1 11 17 = nI n) (v : Int32) : f_X11_latestOf v M = some (lst (pL (M.1 77) v) n, M) := by
  obtain ⟨k, hk⟩ := FU_pos (d := n) (by omega)
  unfold f_X11_latestOf
  rw [hk]
  exact l_X11_latestOf v M (fun w3 w4 M5 => some (w3, M5)) hn e n 0 k (by omega)
theorem e_X11_forceOf {M : Mem} {n : Nat} (hn : n ≤ 40) (e : M.1 11 17 = nI n) (v w : Int32) : f_X11_forceOf v w M = some (lst (pF (M.1 77) (M.1 78) v w) n, M) := by
  obtain ⟨k, hk⟩ := FU_pos (d := n) (by omega)
  unfold f_X11_forceOf
  rw [hk]
  exact l_X11_forceOf v w M (fun w3 w4 M5 => some (w3, M5)) hn e n 0 k (by omega)
theorem m6 (r i : Nat) : (6 : Int32) * nI r + nI i = nI (6 * r + i) := by
  rw [show (6 : Int32) = nI 6 from rfl, pk_mul, nI_add]
theorem m6' (r i : Nat) : nI r * (6 : Int32) + nI i = nI (6 * r + i) := by
  rw [show (6 : Int32) = nI 6 from rfl, pk_mul, nI_add, Nat.mul_comm r 6]
theorem m8 (r i : Nat) : (8 : Int32) * nI r + nI i = nI (8 * r + i) := by
  rw [show (8 : Int32) = nI 8 from rfl, pk_mul, nI_add]
theorem m8' (r i : Nat) : nI r * (8 : Int32) + nI i = nI (8 * r + i) := by
  rw [show (8 : Int32) = nI 8 from rfl, pk_mul, nI_add, Nat.mul_comm r 8]
theorem l_X11_sumOf (M : Mem) (K : Int32 → Int32 → Mem → Option Ret) {r j p : Nat} (hr : r < 40) (hj : j < 8) (hp : p ≤ 6) (er : M.1 77 r = nI j) (ep : M.1 73 j = nI p) : ∀ (d a k : Nat), a + d = p → f_X11_sumOf_L4 (nI r) (k + (d + 1)) (sm (fun i => M.1 79 (6 * r + i) * M.1 75 (6 * j + i)) a) (nI a) M K = K (sm (fun i => M.1 79 (6 * r + i) * M.1 75 (6 * j + i)) p) (nI p) M
  | 0, a, k, h => by
    have : a = p := by omega
    subst this
    rw [show k + (0 + 1) = k + 1 from rfl, f_X11_sumOf_L4, gV_nI hr (by decide), nI_clamp (by omega), er, gV_nI hj (by decide), nI_clamp (by omega), ep, if_pos (nI_le (Nat.le_refl a) (by omega))]
  | d + 1, a, k, h => by
    have ih := l_X11_sumOf M K hr hj hp er ep d (a + 1) k (by omega)
    rw [show k + (d + 1 + 1) = (k + (d + 1)) + 1 from rfl, f_X11_sumOf_L4, gV_nI hr (by decide), nI_clamp (by omega), er, gV_nI hj (by decide), nI_clamp (by omega), ep, if_neg (nI_ge (show a < p by omega) (by omega)), m6, m6, gV_nI (by omega) (by decide), gV_nI hr (by decide), gV_nI (by omega) (by decide), nI_clamp (by omega), nI_clamp (by omega), nI_1]
    exact ih
theorem e_X11_sumOf {M : Mem} (hI : Inv M) {n r : Nat} (e : M.1 11 17 = nI n) (hn : n ≤ 40) (hr : r < n) : f_X11_sumOf (nI r) M = some (M.1 28 r, M) := by
  obtain ⟨k, k1, k2, k3⟩ := hI.r
  have : k = n := (nI_eq (by omega) (by omega)).mp (k2.symm.trans e)
  subst this
  obtain ⟨-, -, j, a3, a4, a5, -⟩ := k3 r hr
  obtain ⟨nj, -, -, hp⟩ := hI.j
  obtain ⟨p, p1, p2, -⟩ := hp j a3
  rw [p2, nI_clamp (by omega)] at a5
  obtain ⟨z, hz⟩ := FU_pos (d := p) (by omega)
  unfold f_X11_sumOf
  rw [hz, a5]
  exact l_X11_sumOf M (fun w2 w3 M4 => some (w2, M4)) (by omega) a3 p1 a4 p2 p 0 z (by omega)
theorem e_X4_sumOf (M : Mem) {r : Nat} (hr : r < 40) : f_X4_sumOf (nI r) M = some (M.1 28 r, M) := by
  unfold f_X4_sumOf
  rw [gV_nI hr (by decide), nI_clamp (by omega)]
theorem ge0_nI {r : Nat} (h : r < 2 ^ 31) : (0 : Int32) ≤ nI r := nI_pos' h
theorem m1_nge : ¬ (0 : Int32) ≤ -1 := by decide
theorem st_rate {M : Mem} (hI : Inv M) (v1 v2 : Int32) : ∃ (r : Int32) (M1 M2 : Mem), f_X10_rate v1 v2 M = some (r, M1) ∧ f_X11_rate v1 v2 M1 = some (r, M2) ∧ Inv M2 := by
  obtain ⟨n, hn, e, -⟩ := hI.r
  by_cases h1 : hs v1 (M.1 11 12) = 0
  · exact ⟨fdv 1, fdC M 1, fdM (fdC M 1) 1, by simp only [f_X10_rate, e_X10_isWithin, e_X11_isIn, e_X1_isKind, e_X10_isRater, e_X10_isPace, e_X10_isWeek, e_X10_isWorker, e_X10_isCause, e_X11_isPace, e_X11_isWeek, e_X11_isWorker, e_X11_isElement, e_X11_isJob, bE_s, bI, bM, jn, one_ne0, e_fdC1, e_fdM1, e_fdC2, e_fdM2, e_fdC3, e_fdM3, e_fdC4, e_fdM4, e_fdC5, e_fdM5, e_X2_has hI, h1, if_true, if_false], by simp only [f_X11_rate, e_X10_isWithin, e_X11_isIn, e_X1_isKind, e_X10_isRater, e_X10_isPace, e_X10_isWeek, e_X10_isWorker, e_X10_isCause, e_X11_isPace, e_X11_isWeek, e_X11_isWorker, e_X11_isElement, e_X11_isJob, bE_s, bI, bM, jn, one_ne0, e_fdC1, e_fdM1, e_fdC2, e_fdM2, e_fdC3, e_fdM3, e_fdC4, e_fdM4, e_fdC5, e_fdM5, e_X2_has hI, h1, fdC_at (show (11 : Nat) ≠ 12 by decide), if_true, if_false], inv_fd hI 1⟩
  by_cases h2 : wi v2 0 500 = 0
  · exact ⟨fdv 1, fdC M 1, fdM (fdC M 1) 1, by simp only [f_X10_rate, e_X10_isWithin, e_X11_isIn, e_X1_isKind, e_X10_isRater, e_X10_isPace, e_X10_isWeek, e_X10_isWorker, e_X10_isCause, e_X11_isPace, e_X11_isWeek, e_X11_isWorker, e_X11_isElement, e_X11_isJob, bE_s, bI, bM, jn, one_ne0, e_fdC1, e_fdM1, e_fdC2, e_fdM2, e_fdC3, e_fdM3, e_fdC4, e_fdM4, e_fdC5, e_fdM5, e_X2_has hI, h1, h2, if_true, if_false], by simp only [f_X11_rate, e_X10_isWithin, e_X11_isIn, e_X1_isKind, e_X10_isRater, e_X10_isPace, e_X10_isWeek, e_X10_isWorker, e_X10_isCause, e_X11_isPace, e_X11_isWeek, e_X11_isWorker, e_X11_isElement, e_X11_isJob, bE_s, bI, bM, jn, one_ne0, e_fdC1, e_fdM1, e_fdC2, e_fdM2, e_fdC3, e_fdM3, e_fdC4, e_fdM4, e_fdC5, e_fdM5, e_X2_has hI, h1, h2, fdC_at (show (11 : Nat) ≠ 12 by decide), if_true, if_false], inv_fd hI 1⟩
  rcases lst_or (pF (M.1 77) (M.1 78) v1 v2) n with h3 | ⟨r, hr, h3, -⟩
  · refine ⟨fdv 2, fdC M 2, fdM (fdC M 2) 2, ?_, ?_, inv_fd hI 2⟩
    · simp only [f_X10_rate, e_X2_has hI, e_X4_inForce hI hn e, e_X10_isWithin, e_X11_isIn, e_X1_isKind, e_X10_isRater, e_X10_isPace, e_X10_isWeek, e_X10_isWorker, e_X10_isCause, e_X11_isPace, e_X11_isWeek, e_X11_isWorker, e_X11_isElement, e_X11_isJob, bE_s, bI, bM, jn, one_ne0, e_fdC1, e_fdM1, e_fdC2, e_fdM2, e_fdC3, e_fdM3, e_fdC4, e_fdM4, e_fdC5, e_fdM5, h1, h2, h3, if_true, if_false]
    · simp only [f_X11_rate, e_X10_isWithin, e_X11_isIn, e_X1_isKind, e_X10_isRater, e_X10_isPace, e_X10_isWeek, e_X10_isWorker, e_X10_isCause, e_X11_isPace, e_X11_isWeek, e_X11_isWorker, e_X11_isElement, e_X11_isJob, bE_s, bI, bM, jn, one_ne0, e_fdC1, e_fdM1, e_fdC2, e_fdM2, e_fdC3, e_fdM3, e_fdC4, e_fdM4, e_fdC5, e_fdM5, fdC_at (show (11 : Nat) ≠ 12 by decide), h1, h2, if_false, e_X11_forceOf (M := fdC M 2) hn e v1 v2, fdC_at (show (77 : Nat) ≠ 12 by decide), fdC_at (show (78 : Nat) ≠ 12 by decide), h3, m1_nge]
  · refine ⟨M.1 28 r, M, M, ?_, ?_, hI⟩
    · simp only [f_X10_rate, e_X2_has hI, e_X4_inForce hI hn e, e_X10_isWithin, e_X11_isIn, e_X1_isKind, e_X10_isRater, e_X10_isPace, e_X10_isWeek, e_X10_isWorker, e_X10_isCause, e_X11_isPace, e_X11_isWeek, e_X11_isWorker, e_X11_isElement, e_X11_isJob, bE_s, bI, bM, jn, one_ne0, e_fdC1, e_fdM1, e_fdC2, e_fdM2, e_fdC3, e_fdM3, e_fdC4, e_fdM4, e_fdC5, e_fdM5, h1, h2, h3, if_false, nI_ne_m1 (show r < 2 ^ 31 by omega), e_X4_sumOf M (show r < 40 by omega)]
    · simp only [f_X11_rate, e_X10_isWithin, e_X11_isIn, e_X1_isKind, e_X10_isRater, e_X10_isPace, e_X10_isWeek, e_X10_isWorker, e_X10_isCause, e_X11_isPace, e_X11_isWeek, e_X11_isWorker, e_X11_isElement, e_X11_isJob, bE_s, bI, bM, jn, one_ne0, e_fdC1, e_fdM1, e_fdC2, e_fdM2, e_fdC3, e_fdM3, e_fdC4, e_fdM4, e_fdC5, e_fdM5, h1, h2, if_false, e_X11_forceOf hn e v1 v2, h3, ge0_nI (show r < 2 ^ 31 by omega), if_true, e_X11_sumOf hI e hn hr]
theorem st_learner {M : Mem} (hI : Inv M) (v1 v2 v3 : Int32) : ∃ (r : Int32) (M1 M2 : Mem), f_X10_learner v1 v2 v3 M = some (r, M1) ∧ f_X11_learner v1 v2 v3 M1 = some (r, M2) ∧ Inv M2 := by
  obtain ⟨n, hn, e, -⟩ := hI.j
  by_cases h1 : wi v1 0 7 = 0
  · exact ⟨fdv 1, fdC M 1, fdM (fdC M 1) 1, by simp only [f_X10_learner, e_X10_isWithin, e_X11_isIn, e_X1_isKind, e_X10_isRater, e_X10_isPace, e_X10_isWeek, e_X10_isWorker, e_X10_isCause, e_X11_isPace, e_X11_isWeek, e_X11_isWorker, e_X11_isElement, e_X11_isJob, bE_s, bI, bM, jn, one_ne0, e_fdC1, e_fdM1, e_fdC2, e_fdM2, e_fdC3, e_fdM3, e_fdC4, e_fdM4, e_fdC5, e_fdM5, e_X2_has hI, h1, if_true, if_false], by simp only [f_X11_learner, e_X10_isWithin, e_X11_isIn, e_X1_isKind, e_X10_isRater, e_X10_isPace, e_X10_isWeek, e_X10_isWorker, e_X10_isCause, e_X11_isPace, e_X11_isWeek, e_X11_isWorker, e_X11_isElement, e_X11_isJob, bE_s, bI, bM, jn, one_ne0, e_fdC1, e_fdM1, e_fdC2, e_fdM2, e_fdC3, e_fdM3, e_fdC4, e_fdM4, e_fdC5, e_fdM5, e_X2_has hI, h1, fdC_at (show (11 : Nat) ≠ 12 by decide), if_true, if_false], inv_fd hI 1⟩
  by_cases h2 : hs v2 (M.1 11 12) = 0
  · exact ⟨fdv 1, fdC M 1, fdM (fdC M 1) 1, by simp only [f_X10_learner, e_X10_isWithin, e_X11_isIn, e_X1_isKind, e_X10_isRater, e_X10_isPace, e_X10_isWeek, e_X10_isWorker, e_X10_isCause, e_X11_isPace, e_X11_isWeek, e_X11_isWorker, e_X11_isElement, e_X11_isJob, bE_s, bI, bM, jn, one_ne0, e_fdC1, e_fdM1, e_fdC2, e_fdM2, e_fdC3, e_fdM3, e_fdC4, e_fdM4, e_fdC5, e_fdM5, e_X2_has hI, h1, h2, if_true, if_false], by simp only [f_X11_learner, e_X10_isWithin, e_X11_isIn, e_X1_isKind, e_X10_isRater, e_X10_isPace, e_X10_isWeek, e_X10_isWorker, e_X10_isCause, e_X11_isPace, e_X11_isWeek, e_X11_isWorker, e_X11_isElement, e_X11_isJob, bE_s, bI, bM, jn, one_ne0, e_fdC1, e_fdM1, e_fdC2, e_fdM2, e_fdC3, e_fdM3, e_fdC4, e_fdM4, e_fdC5, e_fdM5, e_X2_has hI, h1, h2, fdC_at (show (11 : Nat) ≠ 12 by decide), if_true, if_false], inv_fd hI 1⟩
  by_cases h3 : wi v3 (-1) 500 = 0
  · exact ⟨fdv 1, fdC M 1, fdM (fdC M 1) 1, by simp only [f_X10_learner, e_X10_isWithin, e_X11_isIn, e_X1_isKind, e_X10_isRater, e_X10_isPace, e_X10_isWeek, e_X10_isWorker, e_X10_isCause, e_X11_isPace, e_X11_isWeek, e_X11_isWorker, e_X11_isElement, e_X11_isJob, bE_s, bI, bM, jn, one_ne0, e_fdC1, e_fdM1, e_fdC2, e_fdM2, e_fdC3, e_fdM3, e_fdC4, e_fdM4, e_fdC5, e_fdM5, e_X2_has hI, h1, h2, h3, if_true, if_false], by simp only [f_X11_learner, e_X10_isWithin, e_X11_isIn, e_X1_isKind, e_X10_isRater, e_X10_isPace, e_X10_isWeek, e_X10_isWorker, e_X10_isCause, e_X11_isPace, e_X11_isWeek, e_X11_isWorker, e_X11_isElement, e_X11_isJob, bE_s, bI, bM, jn, one_ne0, e_fdC1, e_fdM1, e_fdC2, e_fdM2, e_fdC3, e_fdM3, e_fdC4, e_fdM4, e_fdC5, e_fdM5, e_X2_has hI, h1, h2, h3, fdC_at (show (11 : Nat) ≠ 12 by decide), if_true, if_false], inv_fd hI 1⟩
  obtain ⟨x, -, hx, rfl⟩ := wi_nat (lo := 0) (hi := 7) (by decide) (by decide) h1
  have h2' := h2
  rw [e] at h2'
  obtain ⟨j, hj, rfl⟩ := hs_nat (by omega) h2'
  have hw : v3 = -1 ∨ isN 500 v3 := by
    obtain ⟨q1, q2⟩ := wi_1 h3
    rw [i_lt] at q1 q2
    have a1 : (-1 : Int32).toInt = -1 := rfl
    have a2 : (500 : Int32).toInt = 500 := rfl
    by_cases q : v3.toInt = -1
    · exact Or.inl (i_eq.mpr (by omega))
    · refine Or.inr ⟨v3.toInt.toNat, by omega, ?_⟩
      rw [i_eq, nI_toInt (by omega)]
      omega
  refine ⟨M.1 93 (8 * x + j), up2 M 40 (8 * x + j) v3, up2 (up2 M 40 (8 * x + j) v3) 93 (8 * x + j) v3, ?_, ?_, ?_⟩
  · simp only [f_X10_learner, f_X9_swapBegin, e_X2_has hI, e_X10_isWithin, e_X11_isIn, e_X1_isKind, e_X10_isRater, e_X10_isPace, e_X10_isWeek, e_X10_isWorker, e_X10_isCause, e_X11_isPace, e_X11_isWeek, e_X11_isWorker, e_X11_isElement, e_X11_isJob, bE_s, bI, bM, jn, one_ne0, e_fdC1, e_fdM1, e_fdC2, e_fdM2, e_fdC3, e_fdM3, e_fdC4, e_fdM4, e_fdC5, e_fdM5, h1, h2, h3, if_false, m8', gV_nI (show 8 * x + j < 64 by omega) (show (64 : Nat) < 2 ^ 31 by decide), nI_clamp (show 8 * x + j < 2 ^ 31 by omega), hI.rel.began]
  · have h2'' : ¬ hs (nI j) ((up2 M 40 (8 * x + j) v3).1 11 12) = 0 := h2
    simp only [f_X11_learner, e_X10_isWithin, e_X11_isIn, e_X1_isKind, e_X10_isRater, e_X10_isPace, e_X10_isWeek, e_X10_isWorker, e_X10_isCause, e_X11_isPace, e_X11_isWeek, e_X11_isWorker, e_X11_isElement, e_X11_isJob, bE_s, bI, bM, jn, one_ne0, e_fdC1, e_fdM1, e_fdC2, e_fdM2, e_fdC3, e_fdM3, e_fdC4, e_fdM4, e_fdC5, e_fdM5, h1, h2'', h3, if_false, m8, gV_nI (show 8 * x + j < 64 by omega) (show (64 : Nat) < 2 ^ 31 by decide), nI_clamp (show 8 * x + j < 2 ^ 31 by omega)]
    rfl
  · exact ⟨⟨hI.rel.many, hI.rel.base, hI.rel.more, hI.rel.kinds, hI.rel.films, hI.rel.cycles, hI.rel.cOf, hI.rel.cBy, hI.rel.cPace, hI.rel.cTime, hI.rel.jobs, hI.rel.parts, hI.rel.pOf, hI.rel.often, hI.rel.rates, hI.rel.rOf, hI.rel.rFrom, hI.rel.worth, hI.rel.taped, hI.rel.rules, hI.rel.tape, hI.rel.rows, hI.rel.wWeek, hI.rel.wWorker, hI.rel.wJob, hI.rel.wGood, hI.rel.wSpoilt, hI.rel.wMin, hI.rel.wWat, (by show upd (M.1 40) (8 * x + j) v3 = upd (M.1 93) (8 * x + j) v3; rw [hI.rel.began]), hI.rel.waits, hI.rel.aWeek, hI.rel.aWorker, hI.rel.aMin, hI.rel.nums, hI.rel.num, hI.rel.week, hI.rel.found⟩, hI.e, hI.f, hI.c, hI.j, hI.r, hI.m, hI.u, hI.t, hI.w, hI.a, upd_all (P := fun z => z = -1 ∨ isN 500 z) hI.b hw, hI.n⟩
theorem l_X11_cause (v1 : Int32) (M : Mem) (K : Int32 → Int32 → Mem → Option Ret) {n : Nat} (hn : n ≤ 60) (e : M.1 11 33 = nI n) : ∀ (d a k : Nat), a + d = n → f_X11_cause_L19 v1 (k + (d + 1)) (sm (fun i => if M.1 91 i = v1 then M.1 92 i else 0) a) (nI a) M K = K (sm (fun i => if M.1 91 i = v1 then M.1 92 i else 0) n) (nI n) M
  | 0, a, k, h => by
    have : a = n := by omega
    subst this
    rw [show k + (0 + 1) = k + 1 from rfl, f_X11_cause_L19, e, if_pos (nI_le (Nat.le_refl a) (by omega))]
  | d + 1, a, k, h => by
    have ih := l_X11_cause v1 M K hn e d (a + 1) k (by omega)
    rw [show k + (d + 1 + 1) = (k + (d + 1)) + 1 from rfl, f_X11_cause_L19, e, if_neg (nI_ge (show a < n by omega) (by omega)), gV_nI (by omega) (by decide)]
    simp only [jn, bI, gV_nI (show a < 60 by omega) (show (60 : Nat) < 2 ^ 31 by decide), nI_clamp (show a < 2 ^ 31 by omega), nI_1]
    rw [sm_succ] at ih
    by_cases hc : M.1 91 a = v1
    · simp only [hc, if_true] at ih ⊢
      exact ih
    · simp only [hc, if_false] at ih ⊢
      exact ih
theorem st_cause {M : Mem} (hI : Inv M) (v1 : Int32) : ∃ (r : Int32) (M1 M2 : Mem), f_X10_cause v1 M = some (r, M1) ∧ f_X11_cause v1 M1 = some (r, M2) ∧ Inv M2 := by
  obtain ⟨n, hn, e, -, hc⟩ := hI.a
  by_cases h1 : wi v1 0 3 = 0
  · exact ⟨fdv 1, fdC M 1, fdM (fdC M 1) 1, by simp only [f_X10_cause, e_X10_isWithin, e_X11_isIn, e_X1_isKind, e_X10_isRater, e_X10_isPace, e_X10_isWeek, e_X10_isWorker, e_X10_isCause, e_X11_isPace, e_X11_isWeek, e_X11_isWorker, e_X11_isElement, e_X11_isJob, bE_s, bI, bM, jn, one_ne0, e_fdC1, e_fdM1, e_fdC2, e_fdM2, e_fdC3, e_fdM3, e_fdC4, e_fdM4, e_fdC5, e_fdM5, h1, if_true, if_false], by simp only [f_X11_cause, e_X10_isWithin, e_X11_isIn, e_X1_isKind, e_X10_isRater, e_X10_isPace, e_X10_isWeek, e_X10_isWorker, e_X10_isCause, e_X11_isPace, e_X11_isWeek, e_X11_isWorker, e_X11_isElement, e_X11_isJob, bE_s, bI, bM, jn, one_ne0, e_fdC1, e_fdM1, e_fdC2, e_fdM2, e_fdC3, e_fdM3, e_fdC4, e_fdM4, e_fdC5, e_fdM5, h1, fdC_at (show (11 : Nat) ≠ 12 by decide), if_true, if_false], inv_fd hI 1⟩
  obtain ⟨x, -, hx, rfl⟩ := wi_nat (lo := 0) (hi := 3) (by decide) (by decide) h1
  obtain ⟨k, hk⟩ := FU_pos (d := n) (by omega)
  refine ⟨M.1 44 x, M, M, ?_, ?_, hI⟩
  · simp only [f_X10_cause, f_X7_minutesFor, e_X10_isWithin, e_X11_isIn, e_X1_isKind, e_X10_isRater, e_X10_isPace, e_X10_isWeek, e_X10_isWorker, e_X10_isCause, e_X11_isPace, e_X11_isWeek, e_X11_isWorker, e_X11_isElement, e_X11_isJob, bE_s, bI, bM, jn, one_ne0, e_fdC1, e_fdM1, e_fdC2, e_fdM2, e_fdC3, e_fdM3, e_fdC4, e_fdM4, e_fdC5, e_fdM5, h1, if_false, gV_nI (show x < 4 by omega) (show (4 : Nat) < 2 ^ 31 by decide), nI_clamp (show x < 2 ^ 31 by omega)]
  · simp only [f_X11_cause, e_X10_isWithin, e_X11_isIn, e_X1_isKind, e_X10_isRater, e_X10_isPace, e_X10_isWeek, e_X10_isWorker, e_X10_isCause, e_X11_isPace, e_X11_isWeek, e_X11_isWorker, e_X11_isElement, e_X11_isJob, bE_s, bI, bM, jn, one_ne0, e_fdC1, e_fdM1, e_fdC2, e_fdM2, e_fdC3, e_fdM3, e_fdC4, e_fdM4, e_fdC5, e_fdM5, h1, if_false]
    rw [hk, hc x (by omega)]
    exact l_X11_cause (nI x) M (fun w6 w7 M8 => some (w6, M8)) hn e n 0 k (by omega)
