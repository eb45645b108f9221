/-! PART AND CHANGE -/
theorem and_11 : (1 : Int32) &&& 1 = 1 := by decide
theorem and_0 : (0 : Int32) &&& 1 = 0 := by decide
def plc (f : Nat → Int32) (v : Int32) : Nat → Nat → Int32
  | 0, _ => -1
  | d + 1, a => if f a = v then nI a else plc f v d (a + 1)
theorem plc_s (f : Nat → Int32) (v : Int32) (d a : Nat) : plc f v (d + 1) a = if f a = v then nI a else plc f v d (a + 1) := rfl
theorem plc_or (f : Nat → Int32) (v : Int32) : ∀ (d a : Nat), (plc f v d a = -1 ∧ ∀ i, a ≤ i → i < a + d → f i ≠ v) ∨ ∃ i, a ≤ i ∧ i < a + d ∧ plc f v d a = nI i ∧ f i = v
  | 0, a => Or.inl ⟨rfl, fun i h1 h2 => by omega⟩
  | d + 1, a => by
    rw [plc_s]
    by_cases q : f a = v
    · rw [if_pos q]; exact Or.inr ⟨a, Nat.le_refl a, by omega, rfl, q⟩
    · rw [if_neg q]
      rcases plc_or f v d (a + 1) with ⟨h1, h2⟩ | ⟨i, h1, h2, h3, h4⟩
      · refine Or.inl ⟨h1, fun i h3 h4 => ?_⟩
        by_cases e : i = a
        · rw [e]; exact q
        · exact h2 i (by omega) (by omega)
      · exact Or.inr ⟨i, by omega, by omega, h3, h4⟩
theorem plc_none {f : Nat → Int32} {v : Int32} {d a : Nat} (h : ∀ i, a ≤ i → i < a + d → f i ≠ v) : plc f v d a = -1 := by
  rcases plc_or f v d a with ⟨h1, -⟩ | ⟨i, h1, h2, -, h4⟩
  · exact h1
  · exact absurd h4 (h i h1 h2)
theorem l_X2_place {M : Mem} {j p : Nat} (hj : j < 8) (hp : p ≤ 6) (ep : M.1 22 j = nI p) (v : Int32) : ∀ (d a k : Nat), a + d = p → f_X2_placeOf_L2 (nI j) v (k + (d + 1)) (nI a) M (fun w1 M2 => some ((-1 : Int32), M2)) = some (plc (fun i => M.1 23 (6 * j + i)) v d a, M)
  | 0, a, k, hh => by
    have : a = p := by omega
    subst this
    rw [show k + (0 + 1) = k + 1 from rfl, f_X2_placeOf_L2, gV_nI hj (by decide), nI_clamp (by omega), ep, if_pos (nI_le (Nat.le_refl a) (by omega))]
    rfl
  | d + 1, a, k, hh => by
    rw [show k + (d + 1 + 1) = (k + (d + 1)) + 1 from rfl, f_X2_placeOf_L2, gV_nI hj (by decide), nI_clamp (by omega), ep, if_neg (nI_ge (show a < p by omega) (by omega)), m6', gV_nI (show 6 * j + a < 48 by omega) (by decide), nI_clamp (show 6 * j + a < 2 ^ 31 by omega), plc_s, nI_1, l_X2_place hj hp ep v d (a + 1) k (by omega)]
    by_cases q : M.1 23 (6 * j + a) = v
    · rw [if_pos q, if_pos q]
    · rw [if_neg q, if_neg q]
theorem e_X2_place {M : Mem} {j p : Nat} (hj : j < 8) (hp : p ≤ 6) (ep : M.1 22 j = nI p) (v : Int32) : f_X2_placeOf (nI j) v M = some (plc (fun i => M.1 23 (6 * j + i)) v p 0, M) := by
  obtain ⟨k, hk⟩ := FU_pos (d := p) (by omega)
  unfold f_X2_placeOf
  rw [hk]
  exact l_X2_place hj hp ep v p 0 k (by omega)
theorem q_latest {N : Mem} {n : Nat} (hn : n ≤ 40) (e : N.1 4 6 = nI n) (v : Int32) : f_X4_latestOf v N = some (lst (pL (N.1 26) v) n, N) := by
  obtain ⟨k, hk⟩ := FU_pos (d := n) (by omega)
  unfold f_X4_latestOf bI
  rw [e, hk]
  exact l_X4_latestOf v N n k hn
def orv (f : Nat → Int32) (v : Int32) : Nat → Nat → Int32 → Int32
  | 0, _, x => x
  | d + 1, a, x => orv f v d (a + 1) (x ||| if f a = v then 1 else 0)
theorem orv_1 (f : Nat → Int32) (v : Int32) : ∀ (d a : Nat), orv f v d a 1 = 1
  | 0, _ => rfl
  | d + 1, a => by
    show orv f v d (a + 1) (1 ||| if f a = v then 1 else 0) = 1
    rw [show (1 : Int32) ||| (if f a = v then 1 else 0) = 1 by split <;> decide]
    exact orv_1 f v d (a + 1)
theorem orv_0 (f : Nat → Int32) (v : Int32) : ∀ (d a : Nat), a + d < 2 ^ 31 → orv f v d a 0 = if plc f v d a = -1 then 0 else 1
  | 0, a, h => by
    rw [if_pos (show plc f v 0 a = -1 from rfl)]
    rfl
  | d + 1, a, h => by
    rw [plc_s]
    show orv f v d (a + 1) (0 ||| if f a = v then 1 else 0) = _
    by_cases q : f a = v
    · rw [if_pos q, if_pos q, if_neg (nI_ne_m1 (by omega)), show (0 : Int32) ||| 1 = 1 by decide]
      exact orv_1 f v d (a + 1)
    · rw [if_neg q, if_neg q, show (0 : Int32) ||| 0 = 0 by decide]
      exact orv_0 f v d (a + 1) (by omega)
theorem l_X11_part50 {M : Mem} {j p : Nat} (hj : j < 8) (hp : p ≤ 6) (ep : M.1 73 j = nI p) (v w : Int32) (K : Int32 → Int32 → Mem → Option Ret) : ∀ (d a k : Nat) (x : Int32), a + d = p → f_X11_part_L50 (nI j) v w (k + (d + 1)) x (nI a) M K = K (orv (fun i => M.1 74 (6 * j + i)) v d a x) (nI p) M
  | 0, a, k, x, hh => by
    have : a = p := by omega
    subst this
    rw [show k + (0 + 1) = k + 1 from rfl, f_X11_part_L50, gV_nI hj (by decide), nI_clamp (by omega), ep, if_pos (nI_le (Nat.le_refl a) (by omega))]
    rfl
  | d + 1, a, k, x, hh => by
    rw [show k + (d + 1 + 1) = (k + (d + 1)) + 1 from rfl, f_X11_part_L50, gV_nI hj (by decide), nI_clamp (by omega), ep, if_neg (nI_ge (show a < p by omega) (by omega)), m6, gV_nI (show 6 * j + a < 48 by omega) (by decide), nI_clamp (show 6 * j + a < 2 ^ 31 by omega), jn_ite]
    simp only [bI]
    rw [nI_1]
    exact l_X11_part50 hj hp ep v w K d (a + 1) k _ (by omega)
theorem e_X2_addPart {M : Mem} {j p : Nat} (hj : j < 8) (hp : p < 6) (ep : M.1 22 j = nI p) (v2 v3 : Int32) : f_X2_addPart (nI j) v2 v3 M = some (nI (p + 1), up2 (up2 (up2 (up2 M 23 (6 * j + p) v2) 24 (6 * j + p) v3) 25 (6 * j + p) 1) 22 j (nI (p + 1))) := by
  have g1 : ∀ k : Option Ret, gV (nI j) 8 k = k := fun k => gV_nI hj (by decide)
  have g2 : ∀ k : Option Ret, gV (nI (6 * j + p)) 48 k = k := fun k => gV_nI (by omega) (by decide)
  unfold f_X2_addPart
  simp only [bI, bM, g1, nI_clamp (show j < 2 ^ 31 by omega), ep, m6', g2, nI_clamp (show 6 * j + p < 2 ^ 31 by omega), up2_ne (show (22 : Nat) ≠ 25 by decide), up2_ne (show (22 : Nat) ≠ 24 by decide), up2_ne (show (22 : Nat) ≠ 23 by decide), up2_same, upd_s, nI_1, and_11]
theorem e_X2_fullParts {M : Mem} {j p : Nat} (hj : j < 8) (hp : p ≤ 6) (ep : M.1 22 j = nI p) : f_X2_isFullOfParts (nI j) M = some (if p = 6 then 1 else 0, M) := by
  unfold f_X2_isFullOfParts
  simp only [gV_nI hj (by decide), nI_clamp (show j < 2 ^ 31 by omega), ep, jn]
  by_cases q : p = 6
  · rw [if_pos q, q, if_neg (show ¬ nI 6 < 6 by decide), gZ_1]
  · rw [if_neg q, if_pos (show nI p < 6 from nI_lt (b := 6) (by omega) (by decide)), gZ_0]
theorem m_part {M N : Mem} {j p x y nr : Nat} (hj : j < 8) (hp : p ≤ 6) (ep : M.1 73 j = nI p) (hnr : nr ≤ 40) (er : M.1 11 17 = nI nr) (h1 : ¬ hs (nI j) (M.1 11 12) = 0) (h2 : ¬ hs (nI x) (M.1 11 0) = 0) (h3 : ¬ wi (nI y) 1 9 = 0) (e11 : N.1 11 = M.1 11) (e77 : N.1 77 = M.1 77) (e73 : N.1 73 = M.1 73) (e74 : N.1 74 = M.1 74) : f_X11_part (nI j) (nI x) (nI y) N = if orv (fun i => M.1 74 (6 * j + i)) (nI x) p 0 (if lst (pL (M.1 77) (nI j)) nr < 0 then 0 else 1) = 0 then (if p = 6 then some (fdv 4, fdM N 4) else some (nI (p + 1), up2 (up2 (up2 N 74 (6 * j + p) (nI x)) 75 (6 * j + p) (nI y)) 73 j (nI (p + 1)))) else some (fdv 3, fdM N 3) := by
  obtain ⟨k, hk⟩ := FU_pos (d := p) (by omega)
  have epN : N.1 73 j = nI p := by rw [e73]; exact ep
  have g1 : ∀ k : Option Ret, gV (nI j) 8 k = k := fun k => gV_nI hj (by decide)
  unfold f_X11_part
  rw [e_X11_isJob, bE_s, e11, if_neg h1, e_X11_isElement, bE_s, e11, if_neg h2, e_X11_isIn, bE_s, if_neg h3, e_X11_latestOf hnr (by rw [e11]; exact er), bE_s, jn_ite, hk]
  refine (l_X11_part50 hj hp epN (nI x) (nI y) _ p 0 k _ (by omega)).trans ?_
  rw [e74, e77]
  by_cases q : orv (fun i => M.1 74 (6 * j + i)) (nI x) p 0 (if lst (pL (M.1 77) (nI j)) nr < 0 then 0 else 1) = 0
  · rw [if_pos q, if_pos q, g1, nI_clamp (show j < 2 ^ 31 by omega), epN]
    by_cases q2 : p = 6
    · rw [if_pos q2, if_pos (show nI p = 6 by rw [q2]; rfl), e_fdM4, bE_s]
    · have g2 : ∀ k : Option Ret, gV (nI (6 * j + p)) 48 k = k := fun k => gV_nI (by omega) (by decide)
      rw [if_neg q2, if_neg (show ¬ nI p = 6 from fun e => q2 ((nI_eq (b := 6) (by omega) (by decide)).mp e))]
      simp only [bM, g1, m6, g2, nI_clamp (show 6 * j + p < 2 ^ 31 by omega), up2_ne (show (73 : Nat) ≠ 74 by decide), up2_ne (show (73 : Nat) ≠ 75 by decide), epN, up2_same, upd_s, nI_1]
  · rw [if_neg q, if_neg q, e_fdM3, bE_s]
theorem st_part {M : Mem} (hI : Inv M) (v1 v2 v3 : Int32) : ∃ (r : Int32) (M1 M2 : Mem), f_X10_part v1 v2 v3 M = some (r, M1) ∧ f_X11_part v1 v2 v3 M1 = some (r, M2) ∧ Inv M2 := by
  obtain ⟨nj, hnj, ej, hJ⟩ := hI.j
  obtain ⟨nr, hnr, er, hRR⟩ := hI.r
  obtain ⟨ne, hne, ee⟩ := hI.e.1
  by_cases h1 : hs v1 (M.1 11 12) = 0
  · exact ⟨fdv 1, fdC M 1, fdM (fdC M 1) 1, by simp only [f_X10_part, e_X10_isWithin, e_X11_isIn, e_X1_isKind, e_X10_isRater, e_X10_isPace, e_X10_isWeek, e_X10_isWorker, e_X10_isCause, e_X11_isPace, e_X11_isWeek, e_X11_isWorker, e_X11_isElement, e_X11_isJob, bE_s, bI, bM, jn, one_ne0, e_fdC1, e_fdM1, e_fdC2, e_fdM2, e_fdC3, e_fdM3, e_fdC4, e_fdM4, e_fdC5, e_fdM5, e_X2_has hI, h1, if_true, if_false], by simp only [f_X11_part, e_X10_isWithin, e_X11_isIn, e_X1_isKind, e_X10_isRater, e_X10_isPace, e_X10_isWeek, e_X10_isWorker, e_X10_isCause, e_X11_isPace, e_X11_isWeek, e_X11_isWorker, e_X11_isElement, e_X11_isJob, bE_s, bI, bM, jn, one_ne0, e_fdC1, e_fdM1, e_fdC2, e_fdM2, e_fdC3, e_fdM3, e_fdC4, e_fdM4, e_fdC5, e_fdM5, h1, fdC_at (show (11 : Nat) ≠ 12 by decide), if_true, if_false], inv_fd hI 1⟩
  by_cases h2 : hs v2 (M.1 11 0) = 0
  · exact ⟨fdv 1, fdC M 1, fdM (fdC M 1) 1, by simp only [f_X10_part, e_X10_isWithin, e_X11_isIn, e_X1_isKind, e_X10_isRater, e_X10_isPace, e_X10_isWeek, e_X10_isWorker, e_X10_isCause, e_X11_isPace, e_X11_isWeek, e_X11_isWorker, e_X11_isElement, e_X11_isJob, bE_s, bI, bM, jn, one_ne0, e_fdC1, e_fdM1, e_fdC2, e_fdM2, e_fdC3, e_fdM3, e_fdC4, e_fdM4, e_fdC5, e_fdM5, e_X2_has hI, e_X1_has hI, h1, h2, if_true, if_false], by simp only [f_X11_part, e_X10_isWithin, e_X11_isIn, e_X1_isKind, e_X10_isRater, e_X10_isPace, e_X10_isWeek, e_X10_isWorker, e_X10_isCause, e_X11_isPace, e_X11_isWeek, e_X11_isWorker, e_X11_isElement, e_X11_isJob, bE_s, bI, bM, jn, one_ne0, e_fdC1, e_fdM1, e_fdC2, e_fdM2, e_fdC3, e_fdM3, e_fdC4, e_fdM4, e_fdC5, e_fdM5, h1, h2, fdC_at (show (11 : Nat) ≠ 12 by decide), if_true, if_false], inv_fd hI 1⟩
  by_cases h3 : wi v3 1 9 = 0
  · exact ⟨fdv 1, fdC M 1, fdM (fdC M 1) 1, by simp only [f_X10_part, e_X10_isWithin, e_X11_isIn, e_X1_isKind, e_X10_isRater, e_X10_isPace, e_X10_isWeek, e_X10_isWorker, e_X10_isCause, e_X11_isPace, e_X11_isWeek, e_X11_isWorker, e_X11_isElement, e_X11_isJob, bE_s, bI, bM, jn, one_ne0, e_fdC1, e_fdM1, e_fdC2, e_fdM2, e_fdC3, e_fdM3, e_fdC4, e_fdM4, e_fdC5, e_fdM5, e_X2_has hI, e_X1_has hI, h1, h2, h3, if_true, if_false], by simp only [f_X11_part, e_X10_isWithin, e_X11_isIn, e_X1_isKind, e_X10_isRater, e_X10_isPace, e_X10_isWeek, e_X10_isWorker, e_X10_isCause, e_X11_isPace, e_X11_isWeek, e_X11_isWorker, e_X11_isElement, e_X11_isJob, bE_s, bI, bM, jn, one_ne0, e_fdC1, e_fdM1, e_fdC2, e_fdM2, e_fdC3, e_fdM3, e_fdC4, e_fdM4, e_fdC5, e_fdM5, h1, h2, h3, fdC_at (show (11 : Nat) ≠ 12 by decide), if_true, if_false], inv_fd hI 1⟩
  have h1' := h1
  have h2' := h2
  rw [ej] at h1'
  rw [ee] at h2'
  obtain ⟨j, hj, ev1⟩ := hs_nat (by omega) h1'
  obtain ⟨x, hx, ev2⟩ := hs_nat (by omega) h2'
  obtain ⟨y, hy1, hy2, ev3⟩ := wi_nat (lo := 1) (hi := 9) (by decide) (by decide) h3
  subst ev1 ev2 ev3
  obtain ⟨p, hp6, ep, hz, hq⟩ := hJ j (by omega)
  have epc : M.1 22 j = nI p := by rw [hI.rel.parts]; exact ep
  have hpl := e_X2_place (show j < 8 by omega) hp6 epc (nI x)
  rw [hI.rel.pOf] at hpl
  have hlt := e_X4_latestOf hI hnr er (nI j)
  have hm := fun (N : Mem) (e11 : N.1 11 = M.1 11) (e77 : N.1 77 = M.1 77) (e73 : N.1 73 = M.1 73) (e74 : N.1 74 = M.1 74) => m_part (N := N) (show j < 8 by omega) hp6 ep hnr er h1 h2 h3 e11 e77 e73 e74
  rcases plc_or (fun i => M.1 74 (6 * j + i)) (nI x) p 0 with ⟨hP, hno⟩ | ⟨i, -, hi2, hP, -⟩
  case inr =>
    have hm := hm (fdC M 3) rfl rfl rfl rfl
    have ho : ¬ orv (fun i => M.1 74 (6 * j + i)) (nI x) p 0 (if lst (pL (M.1 77) (nI j)) nr < 0 then 0 else 1) = 0 := by
      by_cases q : lst (pL (M.1 77) (nI j)) nr < 0
      · rw [if_pos q, orv_0 _ _ _ _ (by omega), hP, if_neg (nI_ne_m1 (by omega))]; exact one_ne0
      · rw [if_neg q, orv_1]; exact one_ne0
    rw [if_neg ho] at hm
    refine ⟨fdv 3, fdC M 3, fdM (fdC M 3) 3, ?_, hm, inv_fd hI 3⟩
    unfold f_X10_part
    rw [e_X2_has hI, bE_s, if_neg h1, e_X1_has hI, bE_s, if_neg h2, e_X10_isWithin, bE_s, if_neg h3, hpl, bE_s, hP, if_neg (nI_ne_m1 (by omega)), e_fdC3, bE_s]
  rcases lst_or (pL (M.1 77) (nI j)) nr with hL | ⟨r, hr, hL, -⟩
  case inr =>
    have hm := hm (fdC M 3) rfl rfl rfl rfl
    rw [hL, if_neg (nI_pos (show r < 2 ^ 31 by omega)), orv_1, if_neg one_ne0] at hm
    refine ⟨fdv 3, fdC M 3, fdM (fdC M 3) 3, ?_, hm, inv_fd hI 3⟩
    unfold f_X10_part
    rw [e_X2_has hI, bE_s, if_neg h1, e_X1_has hI, bE_s, if_neg h2, e_X10_isWithin, bE_s, if_neg h3, hpl, bE_s, hP, if_pos rfl, hlt, bE_s, hL, if_neg (nI_ne_m1 (by omega)), e_fdC3, bE_s]
  have hla : ∀ r, r < nr → ¬ M.1 77 r = nI j := fun r hr e => lst_some (by omega) hr (pL_i.mpr e) hL
  have ho : orv (fun i => M.1 74 (6 * j + i)) (nI x) p 0 (if lst (pL (M.1 77) (nI j)) nr < 0 then 0 else 1) = 0 := by
    rw [hL, if_pos m1_neg, orv_0 _ _ _ _ (by omega), hP, if_pos rfl]
  have hfull := e_X2_fullParts (show j < 8 by omega) hp6 epc
  by_cases q6 : p = 6
  · have hm := hm (fdC M 4) rfl rfl rfl rfl
    rw [if_pos ho, if_pos q6] at hm
    rw [if_pos q6] at hfull
    refine ⟨fdv 4, fdC M 4, fdM (fdC M 4) 4, ?_, hm, inv_fd hI 4⟩
    unfold f_X10_part
    rw [e_X2_has hI, bE_s, if_neg h1, e_X1_has hI, bE_s, if_neg h2, e_X10_isWithin, bE_s, if_neg h3, hpl, bE_s, hP, if_pos rfl, hlt, bE_s, hL, if_pos rfl, hfull, bE_s, if_neg one_ne0, e_fdC4, bE_s]
  have hadd := e_X2_addPart (show j < 8 by omega) (show p < 6 by omega) epc (nI x) (nI y)
  have hm := hm (up2 (up2 (up2 (up2 M 23 (6 * j + p) (nI x)) 24 (6 * j + p) (nI y)) 25 (6 * j + p) 1) 22 j (nI (p + 1))) rfl rfl rfl rfl
  rw [if_pos ho, if_neg q6] at hm
  rw [if_neg q6] at hfull
  have hGJ : GJ (M.1 11 12) (upd (M.1 73) j (nI (p + 1))) (upd (M.1 74) (6 * j + p) (nI x)) (upd (M.1 75) (6 * j + p) (nI y)) := by
    refine ⟨nj, hnj, ej, fun j' hj' => ?_⟩
    by_cases e : j' = j
    · rw [e]
      refine ⟨p + 1, by omega, upd_s _ _ _, fun w => by omega, fun k hk => ?_⟩
      by_cases e2 : k = p
      · rw [e2, upd_s, upd_s]
        refine ⟨⟨x, by omega, rfl⟩, ⟨y, hy1, hy2, rfl⟩, fun k' hk' => ?_⟩
        rw [upd_n (by omega)]
        exact hno k' (Nat.zero_le _) (by omega)
      · rw [upd_n (by omega), upd_n (by omega)]
        obtain ⟨b1, b2, b3⟩ := hq k (by omega)
        refine ⟨b1, b2, fun k' hk' => ?_⟩
        rw [upd_n (by omega)]
        exact b3 k' hk'
    · obtain ⟨p', q1, q2, q3, q4⟩ := hJ j' hj'
      refine ⟨p', q1, by rw [upd_n e]; exact q2, q3, fun k hk => ?_⟩
      rw [upd_n (by omega), upd_n (by omega)]
      obtain ⟨b1, b2, b3⟩ := q4 k hk
      refine ⟨b1, b2, fun k' hk' => ?_⟩
      rw [upd_n (by omega)]
      exact b3 k' hk'
  have hGR : GR (M.1 11 7) (M.1 69) (upd (M.1 73) j (nI (p + 1))) (upd (M.1 74) (6 * j + p) (nI x)) (upd (M.1 75) (6 * j + p) (nI y)) (M.1 11 17) (M.1 77) (M.1 78) (M.1 79) (M.1 28) := by
    refine ⟨nr, hnr, er, fun r hr => ?_⟩
    obtain ⟨a1, a2, j', a3, a4, a5, a6, a7⟩ := hRR r hr
    have hne : j' ≠ j := fun e => hla r hr (by rw [a4, e])
    obtain ⟨p', q1, q2, -⟩ := hJ j' a3
    have epj : (M.1 73 j').toNatClampNeg = p' := by rw [q2, nI_clamp (by omega)]
    rw [epj] at a5 a6 a7
    refine ⟨a1, fun i hi hh => a2 i hi (fun j2 hj2 e2 => ?_), j', a3, a4, ?_, ?_, ?_⟩
    · have := hh j2 hj2 e2
      have e3 : j2 = j' := (nI_eq (by omega) (by omega)).mp (e2.symm.trans a4)
      rw [e3, upd_n hne] at this
      rw [e3]
      exact this
    · rw [upd_n hne, epj, a5]
      exact sm_congr (fun i hi => by rw [upd_n (by omega)])
    · rw [upd_n hne, epj]
      intro i hi
      rw [upd_n (by omega)]
      exact a6 i hi
    · rw [upd_n hne, epj]
      exact a7
  have hGM : GM (M.1 11 17) (M.1 77) (upd (M.1 73) j (nI (p + 1))) (M.1 76) (upd (M.1 25) (6 * j + p) 1) := by
    intro j' hj' i hi
    obtain ⟨b1, b2, b3⟩ := hI.m j' hj' i hi
    by_cases e : j' = j
    · rw [e] at b1 b2 b3 ⊢
      have hn : ¬ hasR (M.1 11 17) (M.1 77) (nI j) := fun ⟨r, r1, r2⟩ => by
        rw [er, nI_clamp (by omega)] at r1
        exact hla r r1 r2
      obtain ⟨c1, c2⟩ := b3 hn
      refine ⟨b1, fun w => absurd w hn, fun _ => ⟨c1, ?_⟩⟩
      rw [upd_s (M.1 73), nI_clamp (by omega)]
      rw [ep, nI_clamp (by omega)] at c2
      by_cases e2 : i = p
      · rw [e2, upd_s, if_pos (by omega)]
      · rw [upd_n (by omega), c2]
        by_cases e3 : i < p
        · rw [if_pos e3, if_pos (by omega)]
        · rw [if_neg e3, if_neg (by omega)]
    · rw [upd_n e, upd_n (show 6 * j' + i ≠ 6 * j + p by omega)]
      exact ⟨b1, b2, b3⟩
  refine ⟨nI (p + 1), _, _, ?_, hm, ⟨⟨hI.rel.many, hI.rel.base, hI.rel.more, hI.rel.kinds, hI.rel.films, hI.rel.cycles, hI.rel.cOf, hI.rel.cBy, hI.rel.cPace, hI.rel.cTime, hI.rel.jobs, ((by show upd (M.1 22) j _ = upd (M.1 73) j _; rw [hI.rel.parts])), ((by show upd (M.1 23) _ _ = upd (M.1 74) _ _; rw [hI.rel.pOf])), ((by show upd (M.1 24) _ _ = upd (M.1 75) _ _; rw [hI.rel.often])), hI.rel.rates, hI.rel.rOf, hI.rel.rFrom, hI.rel.worth, hI.rel.taped, hI.rel.rules, hI.rel.tape, hI.rel.rows, hI.rel.wWeek, hI.rel.wWorker, hI.rel.wJob, hI.rel.wGood, hI.rel.wSpoilt, hI.rel.wMin, hI.rel.wWat, hI.rel.began, hI.rel.waits, hI.rel.aWeek, hI.rel.aWorker, hI.rel.aMin, hI.rel.nums, hI.rel.num, hI.rel.week, hI.rel.found⟩, hI.e, hI.f, hI.c, (hGJ), (hGR), (hGM), hI.u, hI.t, hI.w, hI.a, hI.b, hI.n⟩⟩
  unfold f_X10_part
  rw [e_X2_has hI, bE_s, if_neg h1, e_X1_has hI, bE_s, if_neg h2, e_X10_isWithin, bE_s, if_neg h3, hpl, bE_s, hP, if_pos rfl, hlt, bE_s, hL, if_pos rfl, hfull, bE_s, if_pos rfl, hadd, bE_s]
def LAv (M : Mem) (nr j : Nat) : Int32 := lst (pL (M.1 77) (nI j)) nr
def PLv (M : Mem) (v : Int32) (j : Nat) : Int32 := plc (fun i => M.1 74 (6 * j + i)) v (M.1 73 j).toNatClampNeg 0
def cnH (M : Mem) (nr : Nat) (v : Int32) (a : Nat) : Nat := smN (fun j => if ¬ LAv M nr j = -1 ∧ ¬ PLv M v j = -1 then 1 else 0) a
theorem cnH_s (M : Mem) (nr : Nat) (v : Int32) (a : Nat) : cnH M nr v (a + 1) = cnH M nr v a + if ¬ LAv M nr a = -1 ∧ ¬ PLv M v a = -1 then 1 else 0 := rfl
def Fr (M N : Mem) : Prop := ∀ q, q ≠ 25 → q ≠ 76 → N.1 q = M.1 q
theorem l_chC {M : Mem} (hI : Inv M) {nr nj : Nat} (hnr : nr ≤ 40) (er : M.1 11 17 = nI nr) (ej : M.1 11 12 = nI nj) (hnj : nj ≤ 8) (v : Int32) (d : Nat) : ∀ (a k : Nat) (N : Mem), a + d = nj → Fr M N → ∃ N' : Mem, (∀ K : Int32 → Int32 → Mem → Option Ret, f_X10_change_L21 v (k + (d + 1)) (nI (cnH M nr v a)) (nI a) N K = K (nI (cnH M nr v nj)) (nI nj) N') ∧ (∀ q, q ≠ 25 → N'.1 q = N.1 q) ∧ (∀ j i, j < 8 → i < 6 → N'.1 25 (6 * j + i) = if a ≤ j ∧ j < nj ∧ ¬ LAv M nr j = -1 ∧ PLv M v j = nI i then 1 else N.1 25 (6 * j + i)) := by
  induction d with
  | zero =>
    intro a k N hh hf
    have : a = nj := by omega
    subst this
    have e34 : N.1 3 4 = nI a := by rw [hf 3 (by decide) (by decide), hI.rel.jobs]; exact ej
    refine ⟨N, fun K => ?_, fun _ _ => rfl, fun j i hj hi => ?_⟩
    · rw [show k + (0 + 1) = k + 1 from rfl, f_X10_change_L21, e_X2_many, bE_s, e34, if_pos (nI_le (Nat.le_refl a) (by omega))]
    · rw [if_neg (fun w => by omega)]
  | succ d ih =>
    intro a k N hh hf
    have e34 : N.1 3 4 = nI nj := by rw [hf 3 (by decide) (by decide), hI.rel.jobs]; exact ej
    have e46 : N.1 4 6 = nI nr := by rw [hf 4 (by decide) (by decide), hI.rel.rates]; exact er
    obtain ⟨nj', -, -, hJ⟩ := hI.j
    obtain ⟨p, hp6, ep, -, -⟩ := hJ a (by omega)
    have epc : N.1 22 a = nI p := by rw [hf 22 (by decide) (by decide), hI.rel.parts]; exact ep
    have hpl := e_X2_place (show a < 8 by omega) hp6 epc v
    rw [hf 23 (by decide) (by decide), hI.rel.pOf] at hpl
    have hP : plc (fun i => M.1 74 (6 * a + i)) v p 0 = PLv M v a := by
      unfold PLv
      rw [ep, nI_clamp (by omega)]
    have hor := plc_or (fun i => M.1 74 (6 * a + i)) v p 0
    rw [hP] at hpl hor
    have hlt := q_latest hnr e46 (nI a)
    rw [hf 26 (by decide) (by decide), hI.rel.rOf] at hlt
    have hlt : f_X4_latestOf (nI a) N = some (LAv M nr a, N) := hlt
    have hun : ∀ K : Int32 → Int32 → Mem → Option Ret, f_X10_change_L21 v (k + (d + 1) + 1) (nI (cnH M nr v a)) (nI a) N K = if PLv M v a = -1 then f_X10_change_L21 v (k + (d + 1)) (nI (cnH M nr v a)) (nI (a + 1)) N K else if LAv M nr a = -1 then f_X10_change_L21 v (k + (d + 1)) (nI (cnH M nr v a)) (nI (a + 1)) N K else bE (f_X2_mark (nI a) (PLv M v a) N) (fun r13 M12 => f_X10_change_L21 v (k + (d + 1)) (nI (cnH M nr v a) + 1) (nI (a + 1)) M12 K) := by
      intro K
      rw [f_X10_change_L21, e_X2_many, bE_s, e34, if_neg (nI_ge (show a < nj by omega) (by omega)), hpl, bE_s, hlt]
      simp only [jn, bE_s, nI_1]
    by_cases qP : PLv M v a = -1
    · obtain ⟨N', n1, n2, n3⟩ := ih (a + 1) k N (by omega) hf
      refine ⟨N', fun K => ?_, n2, fun j i hj hi => ?_⟩
      · have n1 := n1 K
        rw [cnH_s, if_neg (fun w => w.2 qP), Nat.add_zero] at n1
        rw [show k + (d + 1 + 1) = (k + (d + 1)) + 1 from rfl, hun, if_pos qP]
        exact n1
      · rw [n3 j i hj hi]
        by_cases e : j = a
        · rw [e, if_neg (fun w => by omega), if_neg (fun w => nI_ne_m1 (show i < 2 ^ 31 by omega) (w.2.2.2.symm.trans qP))]
        · by_cases c : a + 1 ≤ j ∧ j < nj ∧ ¬ LAv M nr j = -1 ∧ PLv M v j = nI i
          · rw [if_pos c, if_pos ⟨by omega, c.2⟩]
          · rw [if_neg c, if_neg (fun w => c ⟨by omega, w.2⟩)]
    by_cases qL : LAv M nr a = -1
    · obtain ⟨N', n1, n2, n3⟩ := ih (a + 1) k N (by omega) hf
      refine ⟨N', fun K => ?_, n2, fun j i hj hi => ?_⟩
      · have n1 := n1 K
        rw [cnH_s, if_neg (fun w => w.1 qL), Nat.add_zero] at n1
        rw [show k + (d + 1 + 1) = (k + (d + 1)) + 1 from rfl, hun, if_neg qP, if_pos qL]
        exact n1
      · rw [n3 j i hj hi]
        by_cases e : j = a
        · rw [e, if_neg (fun w => by omega), if_neg (fun w => w.2.2.1 qL)]
        · by_cases c : a + 1 ≤ j ∧ j < nj ∧ ¬ LAv M nr j = -1 ∧ PLv M v j = nI i
          · rw [if_pos c, if_pos ⟨by omega, c.2⟩]
          · rw [if_neg c, if_neg (fun w => c ⟨by omega, w.2⟩)]
    rcases hor with ⟨h0, -⟩ | ⟨i0, -, hi0, h0, -⟩
    · exact absurd h0 qP
    obtain ⟨N', n1, n2, n3⟩ := ih (a + 1) k (up2 N 25 (6 * a + i0) 1) (by omega) (fun q h1 h2 => (up2_ne h1).trans (hf q h1 h2))
    refine ⟨N', fun K => ?_, fun q hq => (n2 q hq).trans (up2_ne hq), fun j i hj hi => ?_⟩
    · have n1 := n1 K
      rw [cnH_s, if_pos ⟨qL, qP⟩] at n1
      rw [show k + (d + 1 + 1) = (k + (d + 1)) + 1 from rfl, hun, if_neg qP, if_neg qL, h0]
      unfold f_X2_mark bM
      rw [m6', gV_nI (show 6 * a + i0 < 48 by omega) (by decide), nI_clamp (show 6 * a + i0 < 2 ^ 31 by omega), and_11, bE_s, nI_1]
      exact n1
    · rw [n3 j i hj hi, up2_same]
      by_cases e : j = a
      · rw [e, if_neg (fun w => by omega)]
        by_cases c : i = i0
        · rw [c, upd_s, if_pos ⟨Nat.le_refl a, by omega, qL, h0⟩]
        · rw [upd_n (by omega), if_neg (fun w => c ((nI_eq (by omega) (by omega)).mp (w.2.2.2.symm.trans h0)))]
      · rw [upd_n (show 6 * j + i ≠ 6 * a + i0 by omega)]
        by_cases c : a + 1 ≤ j ∧ j < nj ∧ ¬ LAv M nr j = -1 ∧ PLv M v j = nI i
        · rw [if_pos c, if_pos ⟨by omega, c.2⟩]
        · rw [if_neg c, if_neg (fun w => c ⟨by omega, w.2⟩)]
theorem lst_neg {p : Nat → Bool} {n : Nat} (hn : n < 2 ^ 31) : lst p n < 0 ↔ lst p n = -1 := by
  rcases lst_or p n with h | ⟨r, hr, h, -⟩
  · rw [h]; exact ⟨fun _ => rfl, fun _ => m1_neg⟩
  · rw [h]; exact ⟨fun w => absurd w (nI_pos (by omega)), fun w => absurd w (nI_ne_m1 (by omega))⟩
theorem l_chM29 {M : Mem} {nr : Nat} (hnr : nr ≤ 40) (er : M.1 11 17 = nI nr) (v : Int32) {j p : Nat} (hj : j < 8) (hp : p ≤ 6) (ep : M.1 73 j = nI p) (hdis : ∀ k, k < p → ∀ k', k' < k → M.1 74 (6 * j + k') ≠ M.1 74 (6 * j + k)) (hla : ¬ LAv M nr j = -1) (d : Nat) : ∀ (a k c : Nat) (N : Mem), a + d = p → Fr M N → ∃ N' : Mem, (∀ K : Int32 → Int32 → Mem → Option Ret, f_X11_change_L29 v (nI j) (k + (d + 1)) (nI c) (nI a) N K = K (nI (c + if plc (fun i => M.1 74 (6 * j + i)) v d a = -1 then 0 else 1)) (nI p) N') ∧ (∀ q, q ≠ 76 → N'.1 q = N.1 q) ∧ (∀ i, i < 6 → N'.1 76 (6 * j + i) = if plc (fun i => M.1 74 (6 * j + i)) v d a = nI i then 1 else N.1 76 (6 * j + i)) ∧ (∀ x, x < 6 * j ∨ 6 * j + 6 ≤ x → N'.1 76 x = N.1 76 x) := by
  induction d with
  | zero =>
    intro a k c N hh hf
    have : a = p := by omega
    subst this
    refine ⟨N, fun K => ?_, fun _ _ => rfl, fun i hi => ?_, fun _ _ => rfl⟩
    · rw [show k + (0 + 1) = k + 1 from rfl, f_X11_change_L29, gV_nI hj (by decide), nI_clamp (by omega), hf 73 (by decide) (by decide), ep, if_pos (nI_le (Nat.le_refl a) (by omega))]
      rfl
    · rw [if_neg (fun w => nI_ne_m1 (show i < 2 ^ 31 by omega) w.symm)]
  | succ d ih =>
    intro a k c N hh hf
    have e1 : f_X11_latestOf (nI j) N = some (LAv M nr j, N) := by
      rw [e_X11_latestOf hnr (by rw [hf 11 (by decide) (by decide)]; exact er), hf 77 (by decide) (by decide)]
      rfl
    have hng : ¬ LAv M nr j < 0 := fun w => hla ((lst_neg (by omega)).mp w)
    have g2 : ∀ z : Option Ret, gV (nI (6 * j + a)) 48 z = z := fun z => gV_nI (by omega) (by decide)
    have hun : ∀ K : Int32 → Int32 → Mem → Option Ret, f_X11_change_L29 v (nI j) (k + (d + 1) + 1) (nI c) (nI a) N K = if M.1 74 (6 * j + a) = v then f_X11_change_L29 v (nI j) (k + (d + 1)) (nI c + 1) (nI (a + 1)) (up2 N 76 (6 * j + a) 1) K else f_X11_change_L29 v (nI j) (k + (d + 1)) (nI c) (nI (a + 1)) N K := by
      intro K
      rw [f_X11_change_L29, gV_nI hj (by decide), nI_clamp (by omega), hf 73 (by decide) (by decide), ep, if_neg (nI_ge (show a < p by omega) (by omega)), e1, bE_s, if_neg hng, m6, g2, nI_clamp (show 6 * j + a < 2 ^ 31 by omega), hf 74 (by decide) (by decide)]
      simp only [jn, bM, g2, and_11, nI_1 a]
    rw [plc_s]
    by_cases q : M.1 74 (6 * j + a) = v
    · have hno : plc (fun i => M.1 74 (6 * j + i)) v d (a + 1) = -1 := plc_none (fun i h1 h2 => by
        rw [← q]
        exact (hdis i (by omega) a (by omega)).symm)
      obtain ⟨N', n1, n2, n3, n4⟩ := ih (a + 1) k (c + 1) (up2 N 76 (6 * j + a) 1) (by omega) (fun r h1 h2 => (up2_ne h2).trans (hf r h1 h2))
      rw [hno] at n1 n3
      refine ⟨N', fun K => ?_, fun r hr => (n2 r hr).trans (up2_ne hr), fun i hi => ?_, fun x hx => (n4 x hx).trans (by rw [up2_same, upd_n (by omega)])⟩
      · have n1 := n1 K
        rw [if_pos rfl] at n1
        rw [show k + (d + 1 + 1) = (k + (d + 1)) + 1 from rfl, hun, if_pos q, if_pos q, if_neg (nI_ne_m1 (show a < 2 ^ 31 by omega)), nI_1]
        exact n1
      · rw [n3 i hi, if_neg (fun w => nI_ne_m1 (show i < 2 ^ 31 by omega) w.symm), up2_same, if_pos q]
        by_cases e : i = a
        · rw [e, upd_s, if_pos rfl]
        · rw [upd_n (by omega), if_neg (fun w => e ((nI_eq (by omega) (by omega)).mp w.symm))]
    · obtain ⟨N', n1, n2, n3, n4⟩ := ih (a + 1) k c N (by omega) hf
      refine ⟨N', fun K => ?_, n2, fun i hi => ?_, n4⟩
      · rw [show k + (d + 1 + 1) = (k + (d + 1)) + 1 from rfl, hun, if_neg q, if_neg q]
        exact n1 K
      · rw [if_neg q]
        exact n3 i hi
theorem l_chM18 {M : Mem} (hI : Inv M) {nr nj : Nat} (hnr : nr ≤ 40) (er : M.1 11 17 = nI nr) (ej : M.1 11 12 = nI nj) (hnj : nj ≤ 8) (v : Int32) (d : Nat) : ∀ (a k : Nat) (N : Mem), a + d = nj → Fr M N → ∃ N' : Mem, (∀ K : Int32 → Int32 → Mem → Option Ret, f_X11_change_L18 v (k + (d + 1)) (nI (cnH M nr v a)) (nI a) N K = K (nI (cnH M nr v nj)) (nI nj) N') ∧ (∀ q, q ≠ 76 → N'.1 q = N.1 q) ∧ (∀ j i, j < 8 → i < 6 → N'.1 76 (6 * j + i) = if a ≤ j ∧ j < nj ∧ ¬ LAv M nr j = -1 ∧ PLv M v j = nI i then 1 else N.1 76 (6 * j + i)) := by
  induction d with
  | zero =>
    intro a k N hh hf
    have : a = nj := by omega
    subst this
    refine ⟨N, fun K => ?_, fun _ _ => rfl, fun j i hj hi => ?_⟩
    · rw [show k + (0 + 1) = k + 1 from rfl, f_X11_change_L18, hf 11 (by decide) (by decide), ej, if_pos (nI_le (Nat.le_refl a) (by omega))]
    · rw [if_neg (fun w => by omega)]
  | succ d ih =>
    intro a k N hh hf
    obtain ⟨nj', -, -, hJ⟩ := hI.j
    obtain ⟨p, hp6, ep, -, hq⟩ := hJ a (by omega)
    have hP : plc (fun i => M.1 74 (6 * a + i)) v p 0 = PLv M v a := by
      unfold PLv
      rw [ep, nI_clamp (by omega)]
    obtain ⟨z, hz⟩ := FU_pos (d := p) (by omega)
    by_cases qL : LAv M nr a = -1
    · obtain ⟨N', n1, n2, n3⟩ := ih (a + 1) k N (by omega) hf
      have e1 : f_X11_latestOf (nI a) N = some (LAv M nr a, N) := by
        rw [e_X11_latestOf hnr (by rw [hf 11 (by decide) (by decide)]; exact er), hf 77 (by decide) (by decide)]
        rfl
      have hin : ∀ K : Int32 → Int32 → Mem → Option Ret, f_X11_change_L29 v (nI a) FU (nI (cnH M nr v a)) 0 N K = K (nI (cnH M nr v a)) 0 N := by
        intro K
        rw [show FU = 19999 + 1 from rfl, f_X11_change_L29, gV_nI (show a < 8 by omega) (by decide), e1, bE_s, qL, if_pos m1_neg, ite_self]
      refine ⟨N', fun K => ?_, n2, fun j i hj hi => ?_⟩
      · have n1 := n1 K
        rw [cnH_s, if_neg (fun w => w.1 qL), Nat.add_zero] at n1
        rw [show k + (d + 1 + 1) = (k + (d + 1)) + 1 from rfl, f_X11_change_L18, hf 11 (by decide) (by decide), ej, if_neg (nI_ge (show a < nj by omega) (by omega)), hin, nI_1]
        exact n1
      · rw [n3 j i hj hi]
        by_cases e : j = a
        · rw [e, if_neg (fun w => by omega), if_neg (fun w => w.2.2.1 qL)]
        · by_cases c : a + 1 ≤ j ∧ j < nj ∧ ¬ LAv M nr j = -1 ∧ PLv M v j = nI i
          · rw [if_pos c, if_pos ⟨by omega, c.2⟩]
          · rw [if_neg c, if_neg (fun w => c ⟨by omega, w.2⟩)]
    · obtain ⟨N1, a1, a2, a3, a4⟩ := l_chM29 hnr er v (show a < 8 by omega) hp6 ep (fun k hk k' hk' => (hq k hk).2.2 k' hk') qL p 0 z (cnH M nr v a) N (by omega) hf
      rw [← hz, hP] at a1
      rw [hP] at a3
      obtain ⟨N', n1, n2, n3⟩ := ih (a + 1) k N1 (by omega) (fun r h1 h2 => (a2 r h2).trans (hf r h1 h2))
      refine ⟨N', fun K => ?_, fun r hr => (n2 r hr).trans (a2 r hr), fun j i hj hi => ?_⟩
      · have n1 := n1 K
        rw [cnH_s] at n1
        rw [show k + (d + 1 + 1) = (k + (d + 1)) + 1 from rfl, f_X11_change_L18, hf 11 (by decide) (by decide), ej, if_neg (nI_ge (show a < nj by omega) (by omega))]
        refine (a1 _).trans ?_
        rw [nI_1 a]
        by_cases qP : PLv M v a = -1
        · rw [if_neg (fun w => w.2 qP)] at n1
          rw [if_pos qP]
          exact n1
        · rw [if_pos ⟨qL, qP⟩] at n1
          rw [if_neg qP]
          exact n1
      · rw [n3 j i hj hi]
        by_cases e : j = a
        · rw [e, if_neg (fun w => by omega), a3 i hi]
          by_cases c : PLv M v a = nI i
          · rw [if_pos c, if_pos ⟨Nat.le_refl a, by omega, qL, c⟩]
          · rw [if_neg c, if_neg (fun w => c w.2.2.2)]
        · rw [a4 (6 * j + i) (by omega)]
          by_cases c : a + 1 ≤ j ∧ j < nj ∧ ¬ LAv M nr j = -1 ∧ PLv M v j = nI i
          · rw [if_pos c, if_pos ⟨by omega, c.2⟩]
          · rw [if_neg c, if_neg (fun w => c ⟨by omega, w.2⟩)]
theorem Inv.marks {M N : Mem} (hI : Inv M) (h : Fr M N) (hm : GM (M.1 11 17) (M.1 77) (M.1 73) (N.1 76) (N.1 25)) : Inv N := by
  unfold Inv REL
  simp only [h 0 (by decide) (by decide), h 1 (by decide) (by decide), h 2 (by decide) (by decide), h 3 (by decide) (by decide), h 4 (by decide) (by decide), h 5 (by decide) (by decide), h 6 (by decide) (by decide), h 7 (by decide) (by decide), h 11 (by decide) (by decide), h 12 (by decide) (by decide), h 13 (by decide) (by decide), h 14 (by decide) (by decide), h 15 (by decide) (by decide), h 16 (by decide) (by decide), h 17 (by decide) (by decide), h 18 (by decide) (by decide), h 19 (by decide) (by decide), h 20 (by decide) (by decide), h 22 (by decide) (by decide), h 23 (by decide) (by decide), h 24 (by decide) (by decide), h 26 (by decide) (by decide), h 27 (by decide) (by decide), h 28 (by decide) (by decide), h 29 (by decide) (by decide), h 30 (by decide) (by decide), h 32 (by decide) (by decide), h 33 (by decide) (by decide), h 34 (by decide) (by decide), h 35 (by decide) (by decide), h 36 (by decide) (by decide), h 37 (by decide) (by decide), h 38 (by decide) (by decide), h 39 (by decide) (by decide), h 40 (by decide) (by decide), h 41 (by decide) (by decide), h 42 (by decide) (by decide), h 43 (by decide) (by decide), h 44 (by decide) (by decide), h 66 (by decide) (by decide), h 67 (by decide) (by decide), h 68 (by decide) (by decide), h 69 (by decide) (by decide), h 70 (by decide) (by decide), h 71 (by decide) (by decide), h 72 (by decide) (by decide), h 73 (by decide) (by decide), h 74 (by decide) (by decide), h 75 (by decide) (by decide), h 77 (by decide) (by decide), h 78 (by decide) (by decide), h 79 (by decide) (by decide), h 80 (by decide) (by decide), h 81 (by decide) (by decide), h 82 (by decide) (by decide), h 83 (by decide) (by decide), h 84 (by decide) (by decide), h 85 (by decide) (by decide), h 86 (by decide) (by decide), h 87 (by decide) (by decide), h 88 (by decide) (by decide), h 89 (by decide) (by decide), h 90 (by decide) (by decide), h 91 (by decide) (by decide), h 92 (by decide) (by decide), h 93 (by decide) (by decide), h 94 (by decide) (by decide), h 95 (by decide) (by decide)]
  exact ⟨hI.rel, hI.e, hI.f, hI.c, hI.j, hI.r, hm, hI.u, hI.t, hI.w, hI.a, hI.b, hI.n⟩
theorem st_change {M : Mem} (hI : Inv M) (v1 : Int32) : ∃ (r : Int32) (M1 M2 : Mem), f_X10_change v1 M = some (r, M1) ∧ f_X11_change v1 M1 = some (r, M2) ∧ Inv M2 := by
  obtain ⟨nj, hnj, ej, hJ⟩ := hI.j
  obtain ⟨nr, hnr, er, hRR⟩ := hI.r
  by_cases h1 : hs v1 (M.1 11 0) = 0
  · exact ⟨fdv 1, fdC M 1, fdM (fdC M 1) 1, by simp only [f_X10_change, e_X10_isWithin, e_X11_isIn, e_X1_isKind, e_X10_isRater, e_X10_isPace, e_X10_isWeek, e_X10_isWorker, e_X10_isCause, e_X11_isPace, e_X11_isWeek, e_X11_isWorker, e_X11_isElement, e_X11_isJob, bE_s, bI, bM, jn, one_ne0, e_fdC1, e_fdM1, e_fdC2, e_fdM2, e_fdC3, e_fdM3, e_fdC4, e_fdM4, e_fdC5, e_fdM5, e_X1_has hI, h1, if_true, if_false], by simp only [f_X11_change, e_X10_isWithin, e_X11_isIn, e_X1_isKind, e_X10_isRater, e_X10_isPace, e_X10_isWeek, e_X10_isWorker, e_X10_isCause, e_X11_isPace, e_X11_isWeek, e_X11_isWorker, e_X11_isElement, e_X11_isJob, bE_s, bI, bM, jn, one_ne0, e_fdC1, e_fdM1, e_fdC2, e_fdM2, e_fdC3, e_fdM3, e_fdC4, e_fdM4, e_fdC5, e_fdM5, h1, fdC_at (show (11 : Nat) ≠ 12 by decide), if_true, if_false], inv_fd hI 1⟩
  obtain ⟨k, hk⟩ := FU_pos (d := nj) (by omega)
  obtain ⟨N1, a1, a2, a3⟩ := l_chC hI hnr er ej hnj v1 nj 0 k M (by omega) (fun _ _ _ => rfl)
  have hf1 : Fr M N1 := fun q q1 _ => a2 q q1
  obtain ⟨N2, b1, b2, b3⟩ := l_chM18 hI hnr er ej hnj v1 nj 0 k N1 (by omega) hf1
  rw [← hk] at a1 b1
  have hf2 : Fr M N2 := fun q q1 q2 => (b2 q q2).trans (hf1 q q1 q2)
  refine ⟨nI (cnH M nr v1 nj), N1, N2, ?_, ?_, hI.marks hf2 ?_⟩
  · unfold f_X10_change
    rw [e_X1_has hI, bE_s, if_neg h1]
    exact a1 _
  · unfold f_X11_change
    rw [e_X11_isElement, bE_s, hf1 11 (by decide) (by decide), if_neg h1]
    exact b1 _
  · intro j hj i hi
    obtain ⟨c1, c2, c3⟩ := hI.m j hj i hi
    have e76 := b3 j i hj hi
    have e25 := a3 j i hj hi
    rw [← b2 25 (by decide)] at e25
    rw [a2 76 (by decide)] at e76
    by_cases q : 0 ≤ j ∧ j < nj ∧ ¬ LAv M nr j = -1 ∧ PLv M v1 j = nI i
    · rw [if_pos q] at e76 e25
      have hR : hasR (M.1 11 17) (M.1 77) (nI j) := by
        rcases lst_or (pL (M.1 77) (nI j)) nr with w | ⟨r, hr, -, w⟩
        · exact absurd w q.2.2.1
        · exact ⟨r, by rw [er, nI_clamp (by omega)]; exact hr, pL_i.mp w⟩
      rw [e76, e25]
      exact ⟨Or.inr rfl, fun _ => rfl, fun w => absurd hR w⟩
    · rw [if_neg q] at e76 e25
      rw [e76, e25]
      exact ⟨c1, c2, c3⟩
