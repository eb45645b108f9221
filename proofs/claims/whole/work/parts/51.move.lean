/-! MOVE -/
def mvA (m : Nat → Int32) : Nat → Int32
  | 0 => 0
  | a + 1 => if m a = 0 then mvA m a else 1
def mvS (m w : Nat → Int32) : Nat → Int32
  | 0 => 0
  | a + 1 => if m a = 0 then mvS m w a else mvS m w a + w a
theorem mvA_s (m : Nat → Int32) (a : Nat) : mvA m (a + 1) = if m a = 0 then mvA m a else 1 := rfl
theorem mvS_s (m w : Nat → Int32) (a : Nat) : mvS m w (a + 1) = if m a = 0 then mvS m w a else mvS m w a + w a := rfl
theorem l_may {M : Mem} (hI : Inv M) {r j p nr : Nat} (hnr : nr ≤ 40) (er : M.1 11 17 = nI nr) (hr : r < nr) (h77 : M.1 77 r = nI j) (hj : j < 8) (hp : p ≤ 6) (ep : M.1 73 j = nI p) (v2 : Int32) (K : Int32 → Int32 → Int32 → Mem → Option Ret) : ∀ (d a k : Nat), a + d = p → f_X4_mayMove_L16 (nI r) v2 (nI j) (k + (d + 1)) (mvA (fun i => M.1 76 (6 * j + i)) a) (mvS (fun i => M.1 76 (6 * j + i)) (fun i => M.1 79 (6 * r + i) * M.1 75 (6 * j + i)) a) (nI a) M K = K (mvA (fun i => M.1 76 (6 * j + i)) p) (mvS (fun i => M.1 76 (6 * j + i)) (fun i => M.1 79 (6 * r + i) * M.1 75 (6 * j + i)) p) (nI p) M
  | 0, a, k, hh => by
    have : a = p := by omega
    subst this
    rw [show k + (0 + 1) = k + 1 from rfl, f_X4_mayMove_L16, e_partMany hj (by rw [hI.rel.parts]; exact ep), bE_s, if_pos (nI_le (Nat.le_refl a) (by omega))]
  | d + 1, a, k, hh => by
    have ih := l_may hI hnr er hr h77 hj hp ep v2 K d (a + 1) k (by omega)
    have hmk := (hI.m j hj a (by omega)).2.1 (has_la hnr er hr h77)
    have him := e_isMarked M hj (show a < 6 by omega) (mk_01 hI hj (by omega))
    rw [hmk] at him
    rw [mvA_s, mvS_s] at ih
    rw [show k + (d + 1 + 1) = (k + (d + 1)) + 1 from rfl, f_X4_mayMove_L16, e_partMany hj (by rw [hI.rel.parts]; exact ep), bE_s, if_neg (nI_ge (show a < p by omega) (by omega)), him, bE_s, jn_e, e_worthOf M (show r < 40 by omega) (show a < 6 by omega), bE_s, e_oftenAt M hj (show a < 6 by omega), bE_s, bI_e, hI.rel.worth, hI.rel.often, nI_1]
    by_cases q : M.1 76 (6 * j + a) = 0
    · rw [if_pos q, if_pos q] at ih
      rw [if_pos q]
      exact ih
    · rw [if_neg q, if_neg q] at ih
      rw [if_neg q]
      exact ih
theorem e_mayMove {M : Mem} (hI : Inv M) {r j p nr : Nat} (hnr : nr ≤ 40) (er : M.1 11 17 = nI nr) (hr : r < nr) (h77 : M.1 77 r = nI j) (hj : j < 8) (hp : p ≤ 6) (ep : M.1 73 j = nI p) (sh : Int32) : f_X4_mayMove (nI r) sh M = some (if mvA (fun i => M.1 76 (6 * j + i)) p = 0 then 0 else if mvS (fun i => M.1 76 (6 * j + i)) (fun i => M.1 79 (6 * r + i) * M.1 75 (6 * j + i)) p * 100 < sh * M.1 28 r then 0 else 1, M) := by
  obtain ⟨k, hk⟩ := FU_pos (d := p) (by omega)
  have l := fun K => l_may hI hnr er hr h77 hj hp ep sh K p 0 k (by omega)
  rw [← hk, show mvA (fun i => M.1 76 (6 * j + i)) 0 = 0 from rfl, show mvS (fun i => M.1 76 (6 * j + i)) (fun i => M.1 79 (6 * r + i) * M.1 75 (6 * j + i)) 0 = 0 from rfl, show nI 0 = 0 from rfl] at l
  unfold f_X4_mayMove
  rw [gV_nI (show r < 40 by omega) (by decide), bI_e, nI_clamp (by omega), hI.rel.rOf, h77, l, jn_e, gV_nI (show r < 40 by omega) (by decide)]
  by_cases q : mvA (fun i => M.1 76 (6 * j + i)) p = 0
  · rw [if_pos q, if_pos q]; exact gZ_0
  · rw [if_neg q, if_neg q]
    by_cases q2 : mvS (fun i => M.1 76 (6 * j + i)) (fun i => M.1 79 (6 * r + i) * M.1 75 (6 * j + i)) p * 100 < sh * M.1 28 r
    · rw [if_pos q2, if_pos q2]; exact gZ_0
    · rw [if_neg q2, if_neg q2]; exact gZ_1
theorem l_moveM {N : Mem} {r j p : Nat} (hr : r < 40) (hj : j < 8) (hp : p ≤ 6) (ep : N.1 73 j = nI p) (K : Int32 → Int32 → Int32 → Mem → Option Ret) : ∀ (d a k : Nat), a + d = p → f_X11_move_L38 (nI j) (nI r) (k + (d + 1)) (mvA (fun i => N.1 76 (6 * j + i)) a) (mvS (fun i => N.1 76 (6 * j + i)) (fun i => N.1 79 (6 * r + i) * N.1 75 (6 * j + i)) a) (nI a) N K = K (mvA (fun i => N.1 76 (6 * j + i)) p) (mvS (fun i => N.1 76 (6 * j + i)) (fun i => N.1 79 (6 * r + i) * N.1 75 (6 * j + i)) p) (nI p) N
  | 0, a, k, hh => by
    have : a = p := by omega
    subst this
    rw [show k + (0 + 1) = k + 1 from rfl, f_X11_move_L38, gV_nI hj (by decide), nI_clamp (by omega), ep, if_pos (nI_le (Nat.le_refl a) (by omega))]
  | d + 1, a, k, hh => by
    have ih := l_moveM hr hj hp ep K d (a + 1) k (by omega)
    rw [mvA_s, mvS_s] at ih
    have g1 : ∀ z : Option Ret, gV (nI (6 * j + a)) 48 z = z := fun z => gV_nI (by omega) (by decide)
    rw [show k + (d + 1 + 1) = (k + (d + 1)) + 1 from rfl, f_X11_move_L38, gV_nI hj (by decide), nI_clamp (by omega), ep, if_neg (nI_ge (show a < p by omega) (by omega)), m6, g1, nI_clamp (show 6 * j + a < 2 ^ 31 by omega), jn_e, m6, gV_nI (show 6 * r + a < 240 by omega) (by decide), g1, nI_clamp (show 6 * r + a < 2 ^ 31 by omega), bI_e, nI_1]
    by_cases q : N.1 76 (6 * j + a) = 0
    · rw [if_pos q, if_pos q] at ih
      rw [if_pos q]
      exact ih
    · rw [if_neg q, if_neg q] at ih
      rw [if_neg q]
      exact ih
theorem q_sum {M N : Mem} (hI : Inv M) {n r : Nat} (e : M.1 11 17 = nI n) (hn : n ≤ 40) (hr : r < n) (e7 : ∀ q, 73 ≤ q → q ≤ 79 → N.1 q = M.1 q) : f_X11_sumOf (nI r) N = some (M.1 28 r, N) := by
  obtain ⟨k, k1, k2, k3⟩ := hI.r
  have : k = n := (nI_eq (by omega) (by omega)).mp (k2.symm.trans e)
  subst this
  obtain ⟨-, -, j, a3, a4, a5, -⟩ := k3 r hr
  obtain ⟨nj, -, -, hp⟩ := hI.j
  obtain ⟨p, p1, p2, -⟩ := hp j a3
  rw [p2, nI_clamp (by omega)] at a5
  obtain ⟨z, hz⟩ := FU_pos (d := p) (by omega)
  have l := fun K => l_X11_sumOf N K (r := r) (j := j) (p := p) (by omega) a3 p1 (by rw [e7 77 (by decide) (by decide)]; exact a4) (by rw [e7 73 (by decide) (by decide)]; exact p2) p 0 z (by omega)
  rw [← hz, show sm (fun i => N.1 79 (6 * r + i) * N.1 75 (6 * j + i)) 0 = 0 from rfl, show nI 0 = 0 from rfl] at l
  unfold f_X11_sumOf
  rw [l, e7 79 (by decide) (by decide), e7 75 (by decide) (by decide), ← a5]
theorem i_nlt {a b : Int32} : ¬ a < b ↔ b ≤ a := by rw [i_lt, i_le]; omega
theorem mx2 (x y : Int32) : (if x < y then y else x) = if y ≤ x then x else y := by
  by_cases q : x < y
  · rw [if_pos q, if_neg (fun w => i_nlt.mpr w q)]
  · rw [if_neg q, if_pos (i_nlt.mp q)]
theorem m_move {M N : Mem} (hI : Inv M) {r j p nr : Nat} (hnr : nr ≤ 40) (er : M.1 11 17 = nI nr) (hr : r < nr) (hL : LAv M nr j = nI r) (hj : j < 8) (hp : p ≤ 6) (ep : M.1 73 j = nI p) (h1 : ¬ hs (nI j) (M.1 11 12) = 0) (e11 : N.1 11 = M.1 11) (e80 : N.1 80 = M.1 80) (e7 : ∀ q, 73 ≤ q → q ≤ 79 → N.1 q = M.1 q) : f_X11_move (nI j) N = if mvA (fun i => M.1 76 (6 * j + i)) p = 0 then some (fdv 3, fdM N 3) else if M.1 80 0 * M.1 28 r ≤ 100 * mvS (fun i => M.1 76 (6 * j + i)) (fun i => M.1 79 (6 * r + i) * M.1 75 (6 * j + i)) p then (if nr = 40 then some (fdv 4, fdM N 4) else bE (f_X11_make (nI j) (if M.1 78 r ≤ M.1 11 21 + M.1 80 1 then M.1 11 21 + M.1 80 1 else M.1 78 r) (nI r) N) (fun r21 M20 => some (r21, M20))) else some (fdv 3, fdM N 3) := by
  obtain ⟨k, hk⟩ := FU_pos (d := p) (by omega)
  have l := fun K => l_moveM (N := N) (show r < 40 by omega) hj hp (by rw [e7 73 (by decide) (by decide)]; exact ep) K p 0 k (by omega)
  rw [← hk, show mvA (fun i => N.1 76 (6 * j + i)) 0 = 0 from rfl, show mvS (fun i => N.1 76 (6 * j + i)) (fun i => N.1 79 (6 * r + i) * N.1 75 (6 * j + i)) 0 = 0 from rfl, show nI 0 = 0 from rfl, e7 76 (by decide) (by decide), e7 79 (by decide) (by decide), e7 75 (by decide) (by decide)] at l
  have hlt : f_X11_latestOf (nI j) N = some (nI r, N) := by
    rw [e_X11_latestOf hnr (by rw [e11]; exact er), e7 77 (by decide) (by decide), ← hL]
    rfl
  have gr : ∀ z : Option Ret, gV (nI r) 40 z = z := fun z => gV_nI (by omega) (by decide)
  unfold f_X11_move
  rw [e_X11_isJob, bE_s, e11, if_neg h1, hlt, bE_s, if_pos (nI_pos' (by omega)), l]
  by_cases q : mvA (fun i => M.1 76 (6 * j + i)) p = 0
  · rw [if_pos q, if_pos q, e_fdM3, bE_s]
  · rw [if_neg q, if_neg q, gv0, q_sum hI er hnr hr e7, bE_s, cl0, e80]
    by_cases q2 : M.1 80 0 * M.1 28 r ≤ 100 * mvS (fun i => M.1 76 (6 * j + i)) (fun i => M.1 79 (6 * r + i) * M.1 75 (6 * j + i)) p
    · rw [if_pos q2, if_pos q2, e11, er]
      by_cases q3 : nr = 40
      · rw [if_pos q3, if_pos (show nI nr = 40 by rw [q3]; rfl), e_fdM4, bE_s]
      · rw [if_neg q3, if_neg (show ¬ nI nr = 40 from fun e => q3 ((nI_eq (b := 40) (by omega) (by decide)).mp e)), gv1, bI_e, cl1, gr, jn_e, nI_clamp (show r < 2 ^ 31 by omega), gr, e7 78 (by decide) (by decide)]
        by_cases q4 : M.1 78 r ≤ M.1 11 21 + M.1 80 1
        · rw [if_pos q4, if_pos q4]
        · rw [if_neg q4, if_neg q4]
    · rw [if_neg q2, if_neg q2, e_fdM3, bE_s]
theorem st_move {M : Mem} (hI : Inv M) (v1 : Int32) : ∃ (r : Int32) (M1 M2 : Mem), f_X10_move v1 M = some (r, M1) ∧ f_X11_move v1 M1 = some (r, M2) ∧ Inv M2 := by
  obtain ⟨nf, hnf, ef, -⟩ := hI.f
  obtain ⟨nc, hnc, ec, -⟩ := hI.c
  obtain ⟨nj, hnj, ej, hJ⟩ := hI.j
  obtain ⟨nr, hnr, er, hRR⟩ := hI.r
  by_cases h1 : hs v1 (M.1 11 12) = 0
  · exact ⟨fdv 1, fdC M 1, fdM (fdC M 1) 1, by simp only [f_X10_move, e_X10_isWithin, e_X11_isIn, e_X1_isKind, e_X10_isRater, e_X10_isPace, e_X10_isWeek, e_X10_isWorker, e_X10_isCause, e_X11_isPace, e_X11_isWeek, e_X11_isWorker, e_X11_isElement, e_X11_isJob, bE_s, bI, bM, jn, one_ne0, e_fdC1, e_fdM1, e_fdC2, e_fdM2, e_fdC3, e_fdM3, e_fdC4, e_fdM4, e_fdC5, e_fdM5, e_X2_has hI, h1, if_true, if_false], by simp only [f_X11_move, e_X10_isWithin, e_X11_isIn, e_X1_isKind, e_X10_isRater, e_X10_isPace, e_X10_isWeek, e_X10_isWorker, e_X10_isCause, e_X11_isPace, e_X11_isWeek, e_X11_isWorker, e_X11_isElement, e_X11_isJob, bE_s, bI, bM, jn, one_ne0, e_fdC1, e_fdM1, e_fdC2, e_fdM2, e_fdC3, e_fdM3, e_fdC4, e_fdM4, e_fdC5, e_fdM5, h1, fdC_at (show (11 : Nat) ≠ 12 by decide), if_true, if_false], inv_fd hI 1⟩
  have h1' := h1
  rw [ej] at h1'
  obtain ⟨j, hj, ev1⟩ := hs_nat (by omega) h1'
  subst ev1
  obtain ⟨p, hp6, ep, hz, hq⟩ := hJ j (by omega)
  have hj8 : j < 8 := by omega
  have hlt : f_X4_latestOf (nI j) M = some (LAv M nr j, M) := e_X4_latestOf hI hnr er (nI j)
  rcases la_or M nr j with hL | ⟨r, hr, hL, h77⟩
  · refine ⟨fdv 3, fdC M 3, fdM (fdC M 3) 3, ?_, ?_, inv_fd hI 3⟩
    · unfold f_X10_move
      rw [e_X2_has hI, bE_s, if_neg h1, hlt, bE_s, hL, if_pos rfl, e_fdC3, bE_s]
    · have hltM : f_X11_latestOf (nI j) (fdC M 3) = some (-1, fdC M 3) := by
        rw [e_X11_latestOf (M := fdC M 3) hnr er, ← hL]
        rfl
      unfold f_X11_move
      rw [e_X11_isJob, bE_s, if_neg (show ¬ hs (nI j) ((fdC M 3).1 11 12) = 0 from h1), hltM, bE_s, if_neg m1_nge, e_fdM3, bE_s]
  have hv0 : f_X5_valueOf 0 M = some (M.1 80 0, M) := by
    unfold f_X5_valueOf
    rw [gv0, cl0, hI.rel.rules]
  have hv1 : f_X5_valueOf 1 M = some (M.1 80 1, M) := by
    unfold f_X5_valueOf
    rw [gv1, cl1, hI.rel.rules]
  have hbg : f_X4_beginOf (nI r) M = some (M.1 78 r, M) := by
    unfold f_X4_beginOf
    rw [gV_nI (show r < 40 by omega) (by decide), nI_clamp (by omega), hI.rel.rFrom]
  have hmm := e_mayMove hI hnr er hr h77 hj8 hp6 ep (M.1 80 0)
  have hne : ¬ nI r = -1 := nI_ne_m1 (by omega)
  have hmv := fun (N : Mem) (e11 : N.1 11 = M.1 11) (e80 : N.1 80 = M.1 80) (e7 : ∀ q, 73 ≤ q → q ≤ 79 → N.1 q = M.1 q) => m_move hI hnr er hr hL hj8 hp6 ep h1 e11 e80 e7
  have hfd : ∀ k q, 73 ≤ q → q ≤ 79 → (fdC M k).1 q = M.1 q := fun k q h _ => fdC_at (by omega)
  by_cases q : mvA (fun i => M.1 76 (6 * j + i)) p = 0
  · have hmv := hmv (fdC M 3) rfl rfl (hfd 3)
    rw [if_pos q] at hmv hmm
    refine ⟨fdv 3, fdC M 3, fdM (fdC M 3) 3, ?_, hmv, inv_fd hI 3⟩
    unfold f_X10_move
    rw [e_X2_has hI, bE_s, if_neg h1, hlt, bE_s, hL, if_neg hne, hv0, bE_s, hmm, bE_s, if_pos rfl, e_fdC3, bE_s]
  rw [if_neg q] at hmm
  by_cases q2 : mvS (fun i => M.1 76 (6 * j + i)) (fun i => M.1 79 (6 * r + i) * M.1 75 (6 * j + i)) p * 100 < M.1 80 0 * M.1 28 r
  · have hmv := hmv (fdC M 3) rfl rfl (hfd 3)
    rw [if_neg q, if_neg (fun w => i_nlt.mpr w (by rw [Int32.mul_comm]; exact q2))] at hmv
    rw [if_pos q2] at hmm
    refine ⟨fdv 3, fdC M 3, fdM (fdC M 3) 3, ?_, hmv, inv_fd hI 3⟩
    unfold f_X10_move
    rw [e_X2_has hI, bE_s, if_neg h1, hlt, bE_s, hL, if_neg hne, hv0, bE_s, hmm, bE_s, if_pos rfl, e_fdC3, bE_s]
  rw [if_neg q2] at hmm
  have q2' : M.1 80 0 * M.1 28 r ≤ 100 * mvS (fun i => M.1 76 (6 * j + i)) (fun i => M.1 79 (6 * r + i) * M.1 75 (6 * j + i)) p := by rw [Int32.mul_comm 100]; exact i_nlt.mp q2
  obtain ⟨r1, r2, j', r3, r4, -, r6, r7⟩ := hRR r hr
  have hjj : j' = j := (nI_eq (by omega) (by omega)).mp (r4.symm.trans h77)
  rw [hjj, ep, nI_clamp (by omega)] at r6 r7
  have hT : ∀ i, i < p → 0 < cnE (M.1 69) (M.1 74 (6 * j + i)) nc := fun i hi => by
    obtain ⟨c, c1, c2⟩ := r6 i hi
    rw [ec, nI_clamp (by omega)] at c1
    exact timed_cn c1 c2
  obtain ⟨k, hk⟩ := FU_pos (d := p) (by omega)
  have hcan := l_can1 hI hnc ec hj8 hp6 ep hT p 0 k (by omega)
  rw [← hk, show nI 0 = 0 from rfl] at hcan
  by_cases q40 : nr = 40
  · have hmv := hmv (fdC M 4) rfl rfl (hfd 4)
    rw [if_neg q, if_pos q2', if_pos q40] at hmv
    refine ⟨fdv 4, fdC M 4, fdM (fdC M 4) 4, ?_, hmv, inv_fd hI 4⟩
    unfold f_X10_move
    rw [e_X2_has hI, bE_s, if_neg h1, hlt, bE_s, hL, if_neg hne, hv0, bE_s, hmm, bE_s, if_neg one_ne0, hv1, bE_s, hbg, bE_s, bI_e]
    unfold f_X10_newRate f_X4_canMake
    rw [hcan, bE_s, if_neg one_ne0, e_X4_isFull, bE_s, hI.rel.rates, er, full_40 hnr, if_pos q40, if_neg one_ne0, e_fdC4, bE_s, bE_s]
  have hu1 := hI.u 1 (by decide)
  rw [if_pos rfl] at hu1
  have hfrm : isN 552 (if M.1 78 r ≤ M.1 11 21 + M.1 80 1 then M.1 11 21 + M.1 80 1 else M.1 78 r) := by
    split
    · exact isN_add hI.n.2 hu1
    · exact r1
  obtain ⟨res, N, N2, n1, n2, -, n3, n4⟩ := run_make hI hnf ef hnc ec (show nr < 40 by omega) er hj8 hp6 r7 ep (fun i hi => ⟨(hq i hi).1, hT i hi⟩) hfrm
  have hmv := hmv N (n2 11 (by decide) (by decide) (by decide) (by decide)) (n2 80 (by decide) (by decide) (by decide) (by decide)) (fun q h1 h2 => n2 q (by omega) (by omega) (by omega) (by omega))
  rw [hL] at n3
  rw [if_neg q, if_pos q2', if_neg q40, n3, bE_s] at hmv
  refine ⟨res, N, N2, ?_, hmv, n4⟩
  unfold f_X10_move
  rw [e_X2_has hI, bE_s, if_neg h1, hlt, bE_s, hL, if_neg hne, hv0, bE_s, hmm, bE_s, if_neg one_ne0, hv1, bE_s, hbg, bE_s, bI_e, mx2, hI.rel.week]
  unfold f_X10_newRate f_X4_canMake
  rw [hcan, bE_s, if_neg one_ne0, e_X4_isFull, bE_s, hI.rel.rates, er, full_40 hnr, if_neg q40, if_pos rfl, n1, bE_s, bE_s]
