/-! ORDER -/
theorem ag1 (r c l : Int32) : (r - c) - l = r - (c + l) := by grind
theorem ag2 (r c : Int32) : (0 - c) + r = r - (c + 0) := by grind
theorem ag3 (r c x y : Int32) : ((r - c) + x) - y = (r + x) - (c + y) := by grind
def hrv (jb : Nat → Int32) (j : Nat) : Nat → Int32
  | 0 => 0
  | m + 1 => if jb m = nI j then 1 else hrv jb j m
theorem hrv_s (jb : Nat → Int32) (j m : Nat) : hrv jb j (m + 1) = if jb m = nI j then 1 else hrv jb j m := rfl
theorem hrv_or (jb : Nat → Int32) (j : Nat) : ∀ m, (hrv jb j m = 0 ∧ ∀ i, i < m → ¬ jb i = nI j) ∨ (hrv jb j m = 1 ∧ ∃ i, i < m ∧ jb i = nI j)
  | 0 => Or.inl ⟨rfl, fun i h => absurd h (Nat.not_lt_zero i)⟩
  | m + 1 => by
    rw [hrv_s]
    by_cases c : jb m = nI j
    · rw [if_pos c]; exact Or.inr ⟨rfl, m, Nat.lt_succ_self m, c⟩
    · rw [if_neg c]
      rcases hrv_or jb j m with ⟨h1, h2⟩ | ⟨h1, i, h2, h3⟩
      · refine Or.inl ⟨h1, fun i hi => ?_⟩
        by_cases q : i = m
        · subst q; exact c
        · exact h2 i (by omega)
      · exact Or.inr ⟨h1, i, by omega, h3⟩
theorem Sc.rr {M N : Mem} (e : Sc M N) (h : Rr M) : Rr N := by
  unfold Rr at h ⊢
  rw [e 4 (Or.inl (by decide)), e 6 (Or.inl (by decide)), e 7 (Or.inl (by decide)), e 11 (Or.inl (by decide)), e 26 (Or.inl (by decide)), e 27 (Or.inl (by decide)), e 28 (Or.inl (by decide)), e 30 (Or.inl (by decide)), e 33 (Or.inl (by decide)), e 34 (Or.inl (by decide)), e 35 (Or.inl (by decide)), e 36 (Or.inl (by decide)), e 37 (Or.inl (by decide)), e 38 (Or.inl (by decide)), e 39 (Or.inl (by decide)), e 40 (Or.inl (by decide)), e 41 (Or.inl (by decide)), e 42 (Or.inl (by decide)), e 43 (Or.inl (by decide)), e 44 (Or.inl (by decide)), e 69 (Or.inr ⟨by decide, by decide⟩), e 73 (Or.inr ⟨by decide, by decide⟩), e 74 (Or.inr ⟨by decide, by decide⟩), e 75 (Or.inr ⟨by decide, by decide⟩), e 77 (Or.inr ⟨by decide, by decide⟩), e 78 (Or.inr ⟨by decide, by decide⟩), e 79 (Or.inr ⟨by decide, by decide⟩), e 80 (Or.inr ⟨by decide, by decide⟩), e 82 (Or.inr ⟨by decide, by decide⟩), e 83 (Or.inr ⟨by decide, by decide⟩), e 84 (Or.inr ⟨by decide, by decide⟩), e 85 (Or.inr ⟨by decide, by decide⟩), e 86 (Or.inr ⟨by decide, by decide⟩), e 87 (Or.inr ⟨by decide, by decide⟩), e 88 (Or.inr ⟨by decide, by decide⟩), e 89 (Or.inr ⟨by decide, by decide⟩), e 90 (Or.inr ⟨by decide, by decide⟩), e 91 (Or.inr ⟨by decide, by decide⟩), e 92 (Or.inr ⟨by decide, by decide⟩), e 93 (Or.inr ⟨by decide, by decide⟩)]
  exact h
theorem Sc.fdC {M N : Mem} (h : Sc M N) (k : Nat) : Sc (fdC M k) (fdC N k) := by
  intro q hq
  by_cases c : q = 12
  · subst c
    show upd (N.1 12) k (N.1 12 k + 1) = upd (M.1 12) k (M.1 12 k + 1)
    rw [h 12 hq]
  · rw [fdC_at c, fdC_at c]; exact h q hq
theorem Sc.fdM {M N : Mem} (h : Sc M N) (k : Nat) : Sc (fdM M k) (fdM N k) := by
  intro q hq
  by_cases c : q = 95
  · subst c
    show upd (N.1 95) k (N.1 95 k + 1) = upd (M.1 95) k (M.1 95 k + 1)
    rw [h 95 hq]
  · exact (up2_ne c).trans ((h q hq).trans (up2_ne c).symm)
theorem smN_0 {f : Nat → Nat} : ∀ {n : Nat}, (∀ i, i < n → f i = 0) → smN f n = 0
  | 0, _ => rfl
  | n + 1, h => by rw [smN_s, smN_0 (fun i hi => h i (Nat.lt_succ_of_lt hi)), h n (Nat.lt_succ_self n)]
theorem mN_0 {M : Mem} {x j n : Nat} (h : ∀ i, i < n → ¬ M.1 84 i = nI j) : mN M x j n = 0 := smN_0 (fun i hi => if_neg (fun w => h i hi w.2))
theorem mN_row {M : Mem} (h : Rr M) {n : Nat} (en : M.1 11 25 = nI n) (hn : n ≤ 100) {i j : Nat} (hi : i < n) (hj : M.1 84 i = nI j) : ∃ x, x < 8 ∧ ¬ mN M x j n = 0 := by
  obtain ⟨xa, ja, m, hxa, hja, hm, exa, eja, em⟩ := row_xjm h en hn hi
  refine ⟨xa, by omega, ?_⟩
  have := smN_one (f := fun i => if M.1 83 i = nI xa ∧ M.1 84 i = nI j then (M.1 87 i).toNatClampNeg else 0) hi
  simp only [exa, hj, em, and_self, if_true, nI_clamp (show m < 2 ^ 31 by omega)] at this
  show ¬ smN _ n = 0
  omega
theorem norow {M : Mem} (h : Rr M) {nr n nj j : Nat} (hnr : nr ≤ 40) (er : M.1 11 17 = nI nr) (en : M.1 11 25 = nI n) (hn : n ≤ 100) (ej : M.1 11 12 = nI nj) (hnj : nj ≤ 8) (hj : nj ≤ j) (hj8 : j < 8) : ∀ i, i < n → ¬ M.1 84 i = nI j := by
  intro i hi q
  obtain ⟨kk, k1, k2, k3⟩ := h.w
  have : kk = n := (nI_eq (by omega) (by omega)).mp (k2.symm.trans en)
  subst this
  obtain ⟨-, -, -, -, -, -, -, r, r1, r2, -⟩ := k3 i hi
  rw [er, nI_clamp (by omega)] at r1
  obtain ⟨k', q1, q2, q3⟩ := h.r
  have : k' = nr := (nI_eq (by omega) (by omega)).mp (q2.symm.trans er)
  subst this
  obtain ⟨-, -, j', a3, a4, -, -, a7⟩ := q3 r r1
  have : j = j' := (nI_eq (by omega) (by omega)).mp (q.symm.trans (r2.symm.trans a4))
  subst this
  obtain ⟨nj', b1, b2, b3⟩ := h.j
  have : nj' = nj := (nI_eq (by omega) (by omega)).mp (b2.symm.trans ej)
  subst this
  obtain ⟨p, c1, c2, c3, -⟩ := b3 j hj8
  rw [c2, c3 hj] at a7
  exact absurd a7 (by decide)
theorem ef_m1 {M : Mem} {nr n x j : Nat} (h : ∀ i, i < n → ¬ M.1 84 i = nI j) : ef M nr n x j = -1 := if_pos (mN_0 h)
theorem loo_0 {M : Mem} {nr n j t : Nat} (h : (∀ i, i < n → ¬ M.1 84 i = nI j) ∨ (∀ i, i < n → ¬ M.1 84 i = nI t)) : loo M nr n j t = 0 := by
  unfold loo
  refine if_pos (smN_0 (fun x _ => ?_))
  unfold uF
  rcases h with h | h
  · rw [if_pos (ef_m1 h)]
  · by_cases c : ef M nr n x j = -1
    · rw [if_pos c]
    · rw [if_neg c, if_pos (ef_m1 h)]
/-- who has rows, by the class -/
theorem l_X0_has {M N : Mem} (hI : Inv M) {nr n : Nat} (hnr : nr ≤ 40) (er : M.1 11 17 = nI nr) (en : M.1 11 25 = nI n) (hn : n ≤ 100) (hs : SV M N nr n) {j : Nat} (hj : j < 8) : ∀ (d a k : Nat), a + d = 8 → (∀ x, x < a → mN M x j n = 0) → f_X0_hasRows_L2 (nI j) (k + (d + 1)) (nI a) N (fun w1 M2 => some ((0 : Int32), M2)) = some (hrv (M.1 84) j n, N)
  | 0, a, k, hh, hz => by
    have : a = 8 := by omega
    subst this
    rw [show k + (0 + 1) = k + 1 from rfl, f_X0_hasRows_L2, if_pos le8]
    rcases hrv_or (M.1 84) j n with ⟨h1, -⟩ | ⟨-, i, h2, h3⟩
    · rw [h1]
    · obtain ⟨x, hx, hx2⟩ := mN_row hI.rr en hn h2 h3
      exact absurd (hz x hx) hx2
  | d + 1, a, k, hh, hz => by
    have ih := l_X0_has hI hnr er en hn hs hj d (a + 1) k (by omega)
    obtain ⟨c1, -⟩ := hs.2 a (by omega) j hj
    obtain ⟨-, hb⟩ := mN_pos hI.rr en hn nr a j hnr er
    rw [show k + (d + 1 + 1) = (k + (d + 1)) + 1 from rfl, f_X0_hasRows_L2, if_neg (n_le8 (by omega)), m8', gV_nI (by omega) (by decide), nI_clamp (by omega), c1, nI_1]
    by_cases c : mN M a j n = 0
    · rw [if_pos ((nle0 (by omega)).mpr c)]
      refine ih (fun x hx => ?_)
      by_cases q : x = a
      · subst q; exact c
      · exact hz x (by omega)
    · rw [if_neg (fun q => c ((nle0 (by omega)).mp q))]
      rcases hrv_or (M.1 84) j n with ⟨-, h2⟩ | ⟨h1, -⟩
      · exact absurd (mN_0 h2) c
      · rw [h1]
theorem e_X0_has {M N : Mem} (hI : Inv M) {nr n : Nat} (hnr : nr ≤ 40) (er : M.1 11 17 = nI nr) (en : M.1 11 25 = nI n) (hn : n ≤ 100) (hs : SV M N nr n) {j : Nat} (hj : j < 8) : f_X0_hasRows (nI j) N = some (hrv (M.1 84) j n, N) := by
  obtain ⟨k, hk⟩ := FU_pos (d := 8) (by omega)
  unfold f_X0_hasRows
  rw [hk]
  exact l_X0_has hI hnr er en hn hs hj 8 0 k (by omega) (fun x hx => absurd hx (Nat.not_lt_zero x))
def tR (M : Mem) (nr n j m : Nat) : Int32 := sm (fun t => if t = j then 0 else loo M nr n j t) m
def tC (M : Mem) (nr n j m : Nat) : Int32 := sm (fun t => if t = j then 0 else loo M nr n t j) m
theorem tR_s (M : Mem) (nr n j m : Nat) : tR M nr n j (m + 1) = tR M nr n j m + if m = j then 0 else loo M nr n j m := rfl
theorem tC_s (M : Mem) (nr n j m : Nat) : tC M nr n j (m + 1) = tC M nr n j m + if m = j then 0 else loo M nr n m j := rfl
theorem SV.u47 {M N : Mem} {nr n i : Nat} {v : Int32} (h : SV M N nr n) : SV M (up2 N 47 i v) nr n := ⟨Sc.up h.1 (by omega), h.2⟩
def scI (M : Mem) (nr n x b : Nat) (S : Nat → Int32) (j : Nat) : Int32 := if j = x then S j + tR M nr n x b else if j < b then S j - loo M nr n x j else S j
theorem l_scin {M : Mem} (hI : Inv M) {nr n : Nat} (hnr : nr ≤ 40) (er : M.1 11 17 = nI nr) (en : M.1 11 25 = nI n) (hn : n ≤ 100) {x : Nat} (hx : x < 8) (S : Nat → Int32) (d : Nat) : ∀ (b k : Nat) (N : Mem), b + d = 8 → SV M N nr n → (∀ j, j < 8 → N.1 47 j = scI M nr n x b S j) → ∃ N' : Mem, (∀ K : Int32 → Mem → Option Ret, f_X0_reckonScores_L18 (nI x) (k + (d + 1)) (nI b) N K = K (nI 8) N') ∧ SV M N' nr n ∧ ∀ j, j < 8 → N'.1 47 j = scI M nr n x 8 S j := by
  induction d with
  | zero =>
    intro b k N hh hs hv
    have : b = 8 := by omega
    subst this
    refine ⟨N, fun K => ?_, hs, hv⟩
    rw [show k + (0 + 1) = k + 1 from rfl, f_X0_reckonScores_L18, if_pos le8]
  | succ d ih =>
    intro b k N hh hs hv
    have hun : ∀ j, j < 8 → j ≠ b → j ≠ x → scI M nr n x (b + 1) S j = scI M nr n x b S j := by
      intro j hj q1 q2
      unfold scI
      rw [if_neg q2, if_neg q2]
      by_cases q3 : j < b
      · rw [if_pos (show j < b + 1 by omega), if_pos q3]
      · rw [if_neg (show ¬ j < b + 1 by omega), if_neg q3]
    have hone : ∀ K : Int32 → Mem → Option Ret, f_X0_reckonScores_L18 (nI x) (k + (d + 1 + 1)) (nI b) N K = if nI x = nI b then f_X0_reckonScores_L18 (nI x) (k + (d + 1)) (nI (b + 1)) N K else if loo M nr n x b = 0 then f_X0_reckonScores_L18 (nI x) (k + (d + 1)) (nI (b + 1)) N K else f_X0_reckonScores_L18 (nI x) (k + (d + 1)) (nI (b + 1)) (up2 (up2 N 47 x (N.1 47 x + 1)) 47 b ((up2 N 47 x (N.1 47 x + 1)).1 47 b - 1)) K := by
      intro K
      have g8 : ∀ z : Option Ret, gV (nI b) 8 z = z := fun z => gV_nI (by omega) (by decide)
      have g8' : ∀ z : Option Ret, gV (nI x) 8 z = z := fun z => gV_nI (by omega) (by decide)
      rw [show k + (d + 1 + 1) = (k + (d + 1)) + 1 from rfl, f_X0_reckonScores_L18, if_neg (n_le8 (by omega)), e_X0_loo hI.rr hnr er en hn hs hx (show b < 8 by omega)]
      simp only [jn, bE_s, bM, g8, g8', nI_1, nI_clamp (show x < 2 ^ 31 by omega), nI_clamp (show b < 2 ^ 31 by omega)]
    by_cases c1 : x = b
    · subst c1
      obtain ⟨N', n1, n2⟩ := ih (x + 1) k N (by omega) hs (fun j hj => by
        rw [hv j hj]
        by_cases q : j = x
        · subst q
          unfold scI
          rw [if_pos rfl, if_pos rfl, tR_s, if_pos rfl, i_a0]
        · exact (hun j hj q q).symm)
      refine ⟨N', fun K => ?_, n2⟩
      rw [hone, if_pos rfl]; exact n1 K
    · have c1' : ¬ nI x = nI b := fun q => c1 ((nI_eq (by omega) (by omega)).mp q)
      have hbx : b ≠ x := fun w => c1 w.symm
      rcases loo_or M nr n x b with c2 | c2
      · obtain ⟨N', n1, n2⟩ := ih (b + 1) k N (by omega) hs (fun j hj => by
          rw [hv j hj]
          by_cases q : j = x
          · subst q
            unfold scI
            rw [if_pos rfl, if_pos rfl, tR_s, if_neg hbx, c2, i_a0]
          · by_cases q2 : j = b
            · subst q2
              unfold scI
              rw [if_neg q, if_neg q, if_neg (show ¬ j < j by omega), if_pos (show j < j + 1 by omega), c2]
              exact (Int32.sub_zero _).symm
            · exact (hun j hj q2 q).symm)
        refine ⟨N', fun K => ?_, n2⟩
        rw [hone, if_neg c1', if_pos c2]; exact n1 K
      · obtain ⟨N', n1, n2⟩ := ih (b + 1) k (up2 (up2 N 47 x (N.1 47 x + 1)) 47 b ((up2 N 47 x (N.1 47 x + 1)).1 47 b - 1)) (by omega) hs.u47.u47 (fun j hj => by
          rw [up2_same, up2_same]
          by_cases q2 : j = b
          · subst q2
            rw [upd_s, upd_n hbx, hv j hj]
            unfold scI
            rw [if_neg hbx, if_neg hbx, if_neg (show ¬ j < j by omega), if_pos (show j < j + 1 by omega), c2]
          · rw [upd_n q2]
            by_cases q : j = x
            · subst q
              rw [upd_s, hv j hj]
              unfold scI
              rw [if_pos rfl, if_pos rfl, tR_s, if_neg hbx, c2]
              exact Int32.add_assoc _ _ _
            · rw [upd_n q, hv j hj]
              exact (hun j hj q2 q).symm)
        refine ⟨N', fun K => ?_, n2⟩
        rw [hone, if_neg c1', if_neg (by rw [c2]; decide)]; exact n1 K
def scO (M : Mem) (nr n x j : Nat) : Int32 := (if j < x then tR M nr n j 8 else 0) - tC M nr n j x
theorem l_scout {M : Mem} (hI : Inv M) {nr n : Nat} (hnr : nr ≤ 40) (er : M.1 11 17 = nI nr) (en : M.1 11 25 = nI n) (hn : n ≤ 100) (d : Nat) : ∀ (x k : Nat) (N : Mem), x + d = 8 → SV M N nr n → (∀ j, j < 8 → N.1 47 j = scO M nr n x j) → ∃ N' : Mem, f_X0_reckonScores_L10 (k + (d + 1)) (nI x) N (fun w11 M12 => some (0, M12)) = some (0, N') ∧ SV M N' nr n ∧ ∀ j, j < 8 → N'.1 47 j = scO M nr n 8 j := by
  induction d with
  | zero =>
    intro x k N hh hs hv
    have : x = 8 := by omega
    subst this
    refine ⟨N, ?_, hs, hv⟩
    rw [show k + (0 + 1) = k + 1 from rfl, f_X0_reckonScores_L10, if_pos le8]
  | succ d ih =>
    intro x k N hh hs hv
    obtain ⟨z, hz⟩ := FU_pos (d := 8) (by omega)
    obtain ⟨N', n1, n2, n3⟩ := l_scin hI hnr er en hn (show x < 8 by omega) (scO M nr n x) 8 0 z N (by omega) hs (fun j hj => by
      rw [hv j hj]
      unfold scI
      by_cases q : j = x
      · rw [if_pos q]
        exact (i_a0 _).symm
      · rw [if_neg q, if_neg (Nat.not_lt_zero j)])
    have e3 : ∀ j, j < 8 → N'.1 47 j = scO M nr n (x + 1) j := by
      intro j hj
      rw [n3 j hj]
      unfold scI scO
      rw [tC_s]
      by_cases q : j = x
      · subst q
        rw [if_pos rfl, if_neg (show ¬ j < j by omega), if_pos (show j < j + 1 by omega), if_pos rfl]
        exact ag2 _ _
      · have q' : ¬ x = j := fun w => q w.symm
        rw [if_neg q, if_pos hj, if_neg q']
        by_cases q2 : j < x
        · rw [if_pos q2, if_pos (show j < x + 1 by omega)]
          exact ag1 _ _ _
        · rw [if_neg q2, if_neg (show ¬ j < x + 1 by omega)]
          exact ag1 _ _ _
    obtain ⟨N2, m1, m2, m3⟩ := ih (x + 1) k N' (by omega) n2 e3
    refine ⟨N2, ?_, m2, m3⟩
    rw [show k + (d + 1 + 1) = (k + (d + 1)) + 1 from rfl, f_X0_reckonScores_L10, if_neg (n_le8 (by omega)), hz]
    refine (n1 _).trans ?_
    rw [nI_1]
    exact m1
theorem e_score {M N : Mem} (hI : Inv M) {nr n : Nat} (hnr : nr ≤ 40) (er : M.1 11 17 = nI nr) (en : M.1 11 25 = nI n) (hn : n ≤ 100) (hs : SV M N nr n) : ∃ N' : Mem, f_X0_reckonScores N = some (0, N') ∧ SV M N' nr n ∧ ∀ j, j < 8 → N'.1 47 j = scO M nr n 8 j := by
  obtain ⟨M2, b1, b2, b3, b4, -⟩ := e_fill 47 8 (by decide) 0 N
  have hs2 : SV M M2 nr n := by
    refine ⟨fun q hq => ?_, fun x hx j hj => ?_⟩
    · rw [b3 q (by omega), hs.1 q hq]
    · rw [b3 46 (by decide), b2]; exact hs.2 x hx j hj
  obtain ⟨k, hk⟩ := FU_pos (d := 8) (by omega)
  obtain ⟨N', n1, n2, n3⟩ := l_scout hI hnr er en hn 8 0 k M2 (by omega) hs2 (fun j hj => by
    rw [b4 j hj]
    unfold scO
    rw [if_neg (by omega)]
    show (0 : Int32) = 0 - 0
    decide)
  refine ⟨N', ?_, n2, n3⟩
  unfold f_X0_reckonScores
  rw [b1, bE_s, hk]
  exact n1
/-- one job ahead of another -/
def ahF (hr sc : Nat → Int32) (j t : Nat) : Int32 := if hr t = 0 then 0 else if sc j < sc t then 1 else if sc t = sc j then (if nI j ≤ nI t then 0 else 1) else 0
theorem l_X0_ah {M N : Mem} (hI : Inv M) {nr n : Nat} (hnr : nr ≤ 40) (er : M.1 11 17 = nI nr) (en : M.1 11 25 = nI n) (hn : n ≤ 100) (hs : SV M N nr n) {j : Nat} (hj : j < 8) (K : Int32 → Int32 → Mem → Option Ret) : ∀ (d a k : Nat), a + d = 8 → f_X0_manyAhead_L4 (nI j) (k + (d + 1)) (sm (ahF (fun t => hrv (M.1 84) t n) (N.1 47) j) a) (nI a) N K = K (sm (ahF (fun t => hrv (M.1 84) t n) (N.1 47) j) 8) (nI 8) N
  | 0, a, k, hh => by
    have : a = 8 := by omega
    subst this
    rw [show k + (0 + 1) = k + 1 from rfl, f_X0_manyAhead_L4, if_pos le8]
  | d + 1, a, k, hh => by
    have ih := l_X0_ah hI hnr er en hn hs hj K d (a + 1) k (by omega)
    rw [sm_succ] at ih
    unfold ahF at ih ⊢
    have g8 : ∀ z : Option Ret, gV (nI a) 8 z = z := fun z => gV_nI (by omega) (by decide)
    have g8' : ∀ z : Option Ret, gV (nI j) 8 z = z := fun z => gV_nI (by omega) (by decide)
    rw [show k + (d + 1 + 1) = (k + (d + 1)) + 1 from rfl, f_X0_manyAhead_L4, if_neg (n_le8 (by omega)), g8, g8', e_X0_has hI hnr er en hn hs (show a < 8 by omega)]
    simp only [jn, bE_s, bI, g8, g8', nI_clamp (show a < 2 ^ 31 by omega), nI_clamp (show j < 2 ^ 31 by omega), nI_1]
    rcases hrv_or (M.1 84) a n with ⟨c1, -⟩ | ⟨c1, -⟩
    · simp only [c1, if_true] at ih
      by_cases c2 : N.1 47 j < N.1 47 a
      · simp only [c2, c1, if_true, one_ne0, if_false]; exact ih
      · by_cases c3 : N.1 47 a = N.1 47 j
        · by_cases c4 : nI j ≤ nI a
          · rw [if_neg c2, if_pos c3, if_pos c4, if_pos trivial]; exact ih
          · rw [if_neg c2, if_pos c3, if_neg c4, if_neg one_ne0, c1, if_pos rfl]; exact ih
        · rw [if_neg c2, if_neg c3, if_pos trivial]; exact ih
    · simp only [c1, one_ne0, if_false] at ih
      by_cases c2 : N.1 47 j < N.1 47 a
      · rw [if_pos c2] at ih
        rw [if_pos c2, if_neg one_ne0, c1, if_neg one_ne0]; exact ih
      · by_cases c3 : N.1 47 a = N.1 47 j
        · by_cases c4 : nI j ≤ nI a
          · rw [if_neg c2, if_pos c3, if_pos c4] at ih
            rw [if_neg c2, if_pos c3, if_pos c4, if_pos trivial]; exact ih
          · rw [if_neg c2, if_pos c3, if_neg c4] at ih
            rw [if_neg c2, if_pos c3, if_neg c4, if_neg one_ne0, c1, if_neg one_ne0]; exact ih
        · rw [if_neg c2, if_neg c3] at ih
          rw [if_neg c2, if_neg c3, if_pos trivial]; exact ih
theorem e_X0_ah {M N : Mem} (hI : Inv M) {nr n : Nat} (hnr : nr ≤ 40) (er : M.1 11 17 = nI nr) (en : M.1 11 25 = nI n) (hn : n ≤ 100) (hs : SV M N nr n) {j : Nat} (hj : j < 8) : f_X0_manyAhead (nI j) N = some (sm (ahF (fun t => hrv (M.1 84) t n) (N.1 47) j) 8, N) := by
  obtain ⟨k, hk⟩ := FU_pos (d := 8) (by omega)
  unfold f_X0_manyAhead
  rw [hk]
  exact l_X0_ah hI hnr er en hn hs hj (fun w9 w10 M11 => some (w9, M11)) 8 0 k (by omega)
def srch (hr ah : Nat → Int32) (i : Int32) : Nat → Nat → Int32
  | 0, _ => -1
  | d + 1, x => if hr x = 0 then srch hr ah i d (x + 1) else if ah x = i then nI x else srch hr ah i d (x + 1)
theorem srch_s (hr ah : Nat → Int32) (i : Int32) (d x : Nat) : srch hr ah i (d + 1) x = if hr x = 0 then srch hr ah i d (x + 1) else if ah x = i then nI x else srch hr ah i d (x + 1) := rfl
theorem srch_more {hr ah : Nat → Int32} {i : Int32} {nj : Nat} : ∀ {d x e : Nat}, (∀ t, nj ≤ t → t < x + d + e → hr t = 0) → x + d = nj → srch hr ah i (d + e) x = srch hr ah i d x
  | 0, x, e, h, hx => by
    induction e generalizing x with
    | zero => rfl
    | succ e ih =>
      rw [show 0 + (e + 1) = (0 + e) + 1 by omega, srch_s, if_pos (h x (by omega) (by omega))]
      clear ih
      have key : ∀ (e y : Nat), (∀ t, y ≤ t → t < y + e → hr t = 0) → srch hr ah i (0 + e) y = -1 := by
        intro e
        induction e with
        | zero => intro y _; rfl
        | succ e ih2 =>
          intro y hy
          rw [show 0 + (e + 1) = (0 + e) + 1 by omega, srch_s, if_pos (hy y (by omega) (by omega))]
          exact ih2 (y + 1) (fun t h1 h2 => hy t (by omega) (by omega))
      exact key e (x + 1) (fun t h1 h2 => h t (by omega) (by omega))
  | d + 1, x, e, h, hx => by
    have ih := srch_more (hr := hr) (ah := ah) (i := i) (nj := nj) (d := d) (x := x + 1) (e := e) (fun t h1 h2 => h t h1 (by omega)) (by omega)
    rw [show d + 1 + e = (d + e) + 1 by omega, srch_s, srch_s, ih]
theorem srch_or {hr ah : Nat → Int32} {i : Int32} : ∀ {d x : Nat}, srch hr ah i d x = -1 ∨ ∃ y, y < x + d ∧ srch hr ah i d x = nI y
  | 0, _ => Or.inl rfl
  | d + 1, x => by
    rw [srch_s]
    have ih : srch hr ah i d (x + 1) = -1 ∨ ∃ y, y < x + (d + 1) ∧ srch hr ah i d (x + 1) = nI y := by
      rcases srch_or (hr := hr) (ah := ah) (i := i) (d := d) (x := x + 1) with q | ⟨y, q1, q2⟩
      · exact Or.inl q
      · exact Or.inr ⟨y, by omega, q2⟩
    split
    · exact ih
    · split
      · exact Or.inr ⟨x, by omega, rfl⟩
      · exact ih
theorem srch_congr {hr hr' ah ah' : Nat → Int32} {i : Int32} : ∀ {d x : Nat}, (∀ t, x ≤ t → t < x + d → hr t = hr' t ∧ ah t = ah' t) → srch hr ah i d x = srch hr' ah' i d x
  | 0, _, _ => rfl
  | d + 1, x, h => by
    rw [srch_s, srch_s, (h x (by omega) (by omega)).1, (h x (by omega) (by omega)).2, srch_congr (fun t h1 h2 => h t (by omega) (by omega))]
theorem l_X0_jobAt {M N : Mem} (hI : Inv M) {nr n : Nat} (hnr : nr ≤ 40) (er : M.1 11 17 = nI nr) (en : M.1 11 25 = nI n) (hn : n ≤ 100) (hs : SV M N nr n) (i : Int32) : ∀ (d a k : Nat), a + d = 8 → f_X0_jobAt_L6 i (k + (d + 1)) (nI a) N (fun w7 M8 => some ((-1 : Int32), M8)) = some (srch (fun t => hrv (M.1 84) t n) (fun j => sm (ahF (fun t => hrv (M.1 84) t n) (N.1 47) j) 8) i d a, N)
  | 0, a, k, hh => by
    have : a = 8 := by omega
    subst this
    rw [show k + (0 + 1) = k + 1 from rfl, f_X0_jobAt_L6, if_pos le8]
    rfl
  | d + 1, a, k, hh => by
    have ih := l_X0_jobAt hI hnr er en hn hs i d (a + 1) k (by omega)
    rw [show k + (d + 1 + 1) = (k + (d + 1)) + 1 from rfl, f_X0_jobAt_L6, if_neg (n_le8 (by omega)), e_X0_has hI hnr er en hn hs (show a < 8 by omega)]
    simp only [bE_s, e_X0_ah hI hnr er en hn hs (show a < 8 by omega), nI_1]
    rw [ih, srch_s]
    by_cases c : hrv (M.1 84) a n = 0
    · rw [if_pos c, if_pos c]
    · rw [if_neg c, if_neg c]
      by_cases c2 : sm (ahF (fun t => hrv (M.1 84) t n) (N.1 47) a) 8 = i
      · rw [if_pos c2, if_pos c2]
      · rw [if_neg c2, if_neg c2]
theorem e_jobAt {M N : Mem} (hI : Inv M) {nr n : Nat} (hnr : nr ≤ 40) (er : M.1 11 17 = nI nr) (en : M.1 11 25 = nI n) (hn : n ≤ 100) (hs : SV M N nr n) (i : Int32) : ∃ N' : Mem, f_X0_jobAt i N = some (srch (fun t => hrv (M.1 84) t n) (fun j => sm (ahF (fun t => hrv (M.1 84) t n) (N'.1 47) j) 8) i 8 0, N') ∧ SV M N' nr n ∧ ∀ j, j < 8 → N'.1 47 j = scO M nr n 8 j := by
  obtain ⟨N', n1, n2, n3⟩ := e_score hI hnr er en hn hs
  obtain ⟨k, hk⟩ := FU_pos (d := 8) (by omega)
  refine ⟨N', ?_, n2, n3⟩
  unfold f_X0_jobAt
  rw [n1, bE_s, hk]
  exact l_X0_jobAt hI hnr er en hn n2 i 8 0 k (by omega)
/-! the model's order -/
theorem or_hr {x : Int32} (h : x = 0 ∨ x = 1) (z : Int32) (hz : z = 0 ∨ z = 1) : (x ||| z) &&& 1 = if z = 1 then 1 else x := by
  rcases h with rfl | rfl <;> rcases hz with rfl | rfl <;> decide
def sc' (M : Mem) (nr n j m : Nat) : Int32 := tR M nr n j m - tC M nr n j m
/-- the model's tables hold for the first jobs -/
def MT (M N : Mem) (nr n nj x : Nat) : Prop := Sc M N ∧ ∀ j, j < x → N.1 98 j = hrv (M.1 84) j n ∧ N.1 99 j = sc' M nr n j nj
theorem l_X11_o36 {M : Mem} (hR : Rr M) {nr n : Nat} (hnr : nr ≤ 40) (er : M.1 11 17 = nI nr) (en : M.1 11 25 = nI n) (hn : n ≤ 100) (i : Int32) {j : Nat} (hj : j < 8) (d : Nat) : ∀ (a k : Nat) (N : Mem), a + d = n → Sc M N → N.1 98 j = hrv (M.1 84) j a → ∃ N' : Mem, (∀ K : Int32 → Mem → Option Ret, f_X11_order_L36 i (nI j) (k + (d + 1)) (nI a) N K = K (nI n) N') ∧ Sc M N' ∧ N'.1 98 j = hrv (M.1 84) j n ∧ (∀ t, t ≠ j → N'.1 98 t = N.1 98 t) ∧ N'.1 99 = N.1 99 := by
  induction d with
  | zero =>
    intro a k N hh hs hv
    have : a = n := by omega
    subst this
    refine ⟨N, fun K => ?_, hs, hv, fun _ _ => rfl, rfl⟩
    rw [show k + (0 + 1) = k + 1 from rfl, f_X11_order_L36, hs 11 (Or.inl (by decide)), en, if_pos (nI_le (Nat.le_refl a) (by omega))]
  | succ d ih =>
    intro a k N hh hs hv
    have g8 : ∀ z : Option Ret, gV (nI j) 8 z = z := fun z => gV_nI (by omega) (by decide)
    have hor : hrv (M.1 84) j a = 0 ∨ hrv (M.1 84) j a = 1 := by
      rcases hrv_or (M.1 84) j a with ⟨q, -⟩ | ⟨q, -⟩
      · exact Or.inl q
      · exact Or.inr q
    obtain ⟨N', n1, n2, n3, n4, n5⟩ := ih (a + 1) k (up2 N 98 j (hrv (M.1 84) j (a + 1))) (by omega) (Sc.up hs (by omega)) (by rw [up2_same, upd_s])
    refine ⟨N', fun K => ?_, n2, n3, fun t ht => (n4 t ht).trans ?_, n5.trans (up2_ne (by decide))⟩
    · rw [← n1 K, show k + (d + 1 + 1) = (k + (d + 1)) + 1 from rfl, f_X11_order_L36, hs 11 (Or.inl (by decide)), en, if_neg (nI_ge (show a < n by omega) (by omega)), g8, gV_nI (by omega) (by decide), nI_clamp (show a < 2 ^ 31 by omega), hs 84 (Or.inr ⟨by decide, by decide⟩)]
      simp only [jn_ite, g8, bM, nI_clamp (show j < 2 ^ 31 by omega), hv, nI_1]
      rw [hrv_s, or_hr hor _ (by
        split
        · exact Or.inr rfl
        · exact Or.inl rfl)]
      by_cases c : M.1 84 a = nI j
      · rw [if_pos c, if_pos rfl, if_pos c]
      · rw [if_neg c, if_neg (by decide), if_neg c]
    · rw [up2_same, upd_n ht]
theorem l_X11_o76 {M : Mem} (hR : Rr M) {nr n : Nat} (hnr : nr ≤ 40) (er : M.1 11 17 = nI nr) (en : M.1 11 25 = nI n) (hn : n ≤ 100) {nj : Nat} (ej : M.1 11 12 = nI nj) (hnj : nj ≤ 8) (i : Int32) {j : Nat} (hj : j < 8) (d : Nat) : ∀ (a k : Nat) (N : Mem), a + d = nj → Sc M N → N.1 99 j = sc' M nr n j a → ∃ N' : Mem, (∀ K : Int32 → Mem → Option Ret, f_X11_order_L76 i (nI j) (k + (d + 1)) (nI a) N K = K (nI nj) N') ∧ Sc M N' ∧ N'.1 99 j = sc' M nr n j nj ∧ (∀ t, t ≠ j → N'.1 99 t = N.1 99 t) ∧ N'.1 98 = N.1 98 := by
  induction d with
  | zero =>
    intro a k N hh hs hv
    have : a = nj := by omega
    subst this
    refine ⟨N, fun K => ?_, hs, hv, fun _ _ => rfl, rfl⟩
    rw [show k + (0 + 1) = k + 1 from rfl, f_X11_order_L76, hs 11 (Or.inl (by decide)), ej, if_pos (nI_le (Nat.le_refl a) (by omega))]
  | succ d ih =>
    intro a k N hh hs hv
    have g8 : ∀ z : Option Ret, gV (nI j) 8 z = z := fun z => gV_nI (by omega) (by decide)
    have e1 : sc' M nr n j (a + 1) = (sc' M nr n j a + (if a = j then 0 else loo M nr n j a)) - (if a = j then 0 else loo M nr n a j) := by
      unfold sc'
      rw [tR_s, tC_s]
      exact (ag3 _ _ _ _).symm
    have hs1 : ∀ v, Sc M (up2 N 99 j v) := fun v => Sc.up hs (by omega)
    have el : ∀ (N2 : Mem) (x y : Nat), Sc M N2 → f_X11_isLooser (nI x) (nI y) N2 = some (loo M nr n x y, N2) := by
      intro N2 x y h2
      have r2 : N2.1 11 17 = nI nr := by rw [h2 11 (Or.inl (by decide))]; exact er
      have n2 : N2.1 11 25 = nI n := by rw [h2 11 (Or.inl (by decide))]; exact en
      rw [e_X11_loo (h2.rr hR) hnr r2 n2 hn, sc_loo h2]
    obtain ⟨N', n1, n2, n3, n4, n5⟩ := ih (a + 1) k (up2 (up2 N 99 j (sc' M nr n j a + (if a = j then 0 else loo M nr n j a))) 99 j (sc' M nr n j (a + 1))) (by omega) (Sc.up (hs1 _) (by omega)) (by rw [up2_same, upd_s])
    refine ⟨N', fun K => ?_, n2, n3, fun t ht => (n4 t ht).trans ?_, n5.trans ((up2_ne (by decide)).trans (up2_ne (by decide)))⟩
    · rw [← n1 K, show k + (d + 1 + 1) = (k + (d + 1)) + 1 from rfl, f_X11_order_L76, hs 11 (Or.inl (by decide)), ej, if_neg (nI_ge (show a < nj by omega) (by omega)), g8]
      simp only [jn, g8, bM, nI_clamp (show j < 2 ^ 31 by omega), hv, nI_1, el N _ _ hs, bE_s, up2_same, upd_s, el _ _ _ (hs1 _)]
      rw [e1]
      by_cases c : a = j
      · subst c
        simp only [if_true]
      · have c' : ¬ nI a = nI j := fun q => c ((nI_eq (by omega) (by omega)).mp q)
        simp only [c, c', if_false]
        rcases loo_or M nr n j a with q1 | q1 <;> rcases loo_or M nr n a j with q2 | q2 <;> simp only [q1, q2, if_true, one_ne0, if_false]
    · rw [up2_same, up2_same, upd_n ht, upd_n ht]
theorem l_X11_o12 {M : Mem} (hR : Rr M) {nr n : Nat} (hnr : nr ≤ 40) (er : M.1 11 17 = nI nr) (en : M.1 11 25 = nI n) (hn : n ≤ 100) {nj : Nat} (ej : M.1 11 12 = nI nj) (hnj : nj ≤ 8) (i : Int32) (d : Nat) : ∀ (x k : Nat) (N : Mem), x + d = nj → MT M N nr n nj x → ∃ N' : Mem, (∀ K : Int32 → Mem → Option Ret, f_X11_order_L12 i (k + (d + 1)) (nI x) N K = K (nI nj) N') ∧ MT M N' nr n nj nj := by
  induction d with
  | zero =>
    intro x k N hh hs
    have : x = nj := by omega
    subst this
    refine ⟨N, fun K => ?_, hs⟩
    rw [show k + (0 + 1) = k + 1 from rfl, f_X11_order_L12, hs.1 11 (Or.inl (by decide)), ej, if_pos (nI_le (Nat.le_refl x) (by omega))]
  | succ d ih =>
    intro x k N hh hs
    have g8 : ∀ z : Option Ret, gV (nI x) 8 z = z := fun z => gV_nI (by omega) (by decide)
    obtain ⟨z, hz⟩ := FU_pos (d := n) (by omega)
    obtain ⟨z2, hz2⟩ := FU_pos (d := nj) (by omega)
    obtain ⟨N1, a1, a2, a3, a4, a5⟩ := l_X11_o36 hR hnr er en hn i (show x < 8 by omega) n 0 z (up2 (up2 N 98 x 0) 99 x 0) (by omega) (Sc.up (Sc.up hs.1 (by omega)) (by omega)) (by rw [up2_ne (by decide), up2_same, upd_s]; rfl)
    obtain ⟨N2, b1, b2, b3, b4, b5⟩ := l_X11_o76 hR hnr er en hn ej hnj i (show x < 8 by omega) nj 0 z2 N1 (by omega) a2 (by rw [a5, up2_same, upd_s]; show (0 : Int32) = 0 - 0; decide)
    rw [← hz] at a1
    rw [← hz2] at b1
    have hm : MT M N2 nr n nj (x + 1) := by
      refine ⟨b2, fun j hj => ?_⟩
      by_cases q : j = x
      · subst q
        refine ⟨?_, b3⟩
        rw [b5]; exact a3
      · obtain ⟨c1, c2⟩ := hs.2 j (by omega)
        rw [b5, a4 j q, b4 j q, a5, up2_ne (by decide), up2_same, upd_n q, up2_same, upd_n q, up2_ne (by decide)]
        exact ⟨c1, c2⟩
    obtain ⟨N', d1, d2⟩ := ih (x + 1) k N2 (by omega) hm
    refine ⟨N', fun K => ?_, d2⟩
    rw [show k + (d + 1 + 1) = (k + (d + 1)) + 1 from rfl, f_X11_order_L12, hs.1 11 (Or.inl (by decide)), ej, if_neg (nI_ge (show x < nj by omega) (by omega)), g8]
    simp only [bM, g8, nI_clamp (show x < 2 ^ 31 by omega)]
    rw [show (0 : Int32) &&& 1 = 0 by decide]
    refine (a1 _).trans ((b1 _).trans ?_)
    rw [nI_1]
    exact d1 K
theorem l_X11_o167 {M N : Mem} {nj : Nat} (ej : N.1 11 12 = nI nj) (hnj : nj ≤ 8) {hr sc : Nat → Int32} (h8 : ∀ t, t < nj → N.1 98 t = hr t) (h9 : ∀ t, t < nj → N.1 99 t = sc t) (i : Int32) {j : Nat} (hj : j < nj) (K : Int32 → Int32 → Mem → Option Ret) : ∀ (d a k : Nat), a + d = nj → f_X11_order_L167 i (nI j) (k + (d + 1)) (sm (ahF hr sc j) a) (nI a) N K = K (sm (ahF hr sc j) nj) (nI nj) N
  | 0, a, k, hh => by
    have : a = nj := by omega
    subst this
    rw [show k + (0 + 1) = k + 1 from rfl, f_X11_order_L167, ej, if_pos (nI_le (Nat.le_refl a) (by omega))]
  | d + 1, a, k, hh => by
    have ih := l_X11_o167 (M := M) ej hnj h8 h9 i hj K d (a + 1) k (by omega)
    rw [sm_succ] at ih
    unfold ahF at ih ⊢
    have g8 : ∀ z : Option Ret, gV (nI a) 8 z = z := fun z => gV_nI (by omega) (by decide)
    have g8' : ∀ z : Option Ret, gV (nI j) 8 z = z := fun z => gV_nI (by omega) (by decide)
    rw [show k + (d + 1 + 1) = (k + (d + 1)) + 1 from rfl, f_X11_order_L167, ej, if_neg (nI_ge (show a < nj by omega) (by omega)), g8]
    simp only [jn, bI, g8, g8', nI_clamp (show a < 2 ^ 31 by omega), nI_clamp (show j < 2 ^ 31 by omega), nI_1, h8 a (by omega), h9 a (by omega), h9 j hj]
    by_cases c1 : hr a = 0
    · rw [if_pos c1] at ih ⊢; exact ih
    · rw [if_neg c1] at ih ⊢
      by_cases c2 : sc j < sc a
      · rw [if_pos c2] at ih ⊢; exact ih
      · rw [if_neg c2] at ih ⊢
        by_cases c3 : sc a = sc j
        · rw [if_pos c3] at ih ⊢
          by_cases c4 : nI j ≤ nI a
          · rw [if_pos c4] at ih ⊢; exact ih
          · rw [if_neg c4] at ih ⊢; exact ih
        · rw [if_neg c3] at ih ⊢; exact ih
theorem l_X11_o154 {M N : Mem} {nj : Nat} (ej : N.1 11 12 = nI nj) (hnj : nj ≤ 8) {hr sc : Nat → Int32} (h8 : ∀ t, t < nj → N.1 98 t = hr t) (h9 : ∀ t, t < nj → N.1 99 t = sc t) (i : Int32) (K : Int32 → Mem → Option Ret) : ∀ (d a k : Nat), a + d = nj → f_X11_order_L154 i (k + (d + 1)) (nI a) N K = if srch hr (fun j => sm (ahF hr sc j) nj) i d a = -1 then K (nI nj) N else some (srch hr (fun j => sm (ahF hr sc j) nj) i d a, N)
  | 0, a, k, hh => by
    have : a = nj := by omega
    subst this
    rw [show k + (0 + 1) = k + 1 from rfl, f_X11_order_L154, ej, if_pos (nI_le (Nat.le_refl a) (by omega))]
    exact (if_pos rfl).symm
  | d + 1, a, k, hh => by
    have ih := l_X11_o154 (M := M) ej hnj h8 h9 i K d (a + 1) k (by omega)
    obtain ⟨z, hz⟩ := FU_pos (d := nj) (by omega)
    rw [show k + (d + 1 + 1) = (k + (d + 1)) + 1 from rfl, f_X11_order_L154, ej, if_neg (nI_ge (show a < nj by omega) (by omega)), hz]
    refine (l_X11_o167 (M := M) ej hnj h8 h9 i (show a < nj by omega) _ nj 0 z (by omega)).trans ?_
    simp only [gV_nI (show a < 8 by omega) (show (8 : Nat) < 2 ^ 31 by decide), nI_clamp (show a < 2 ^ 31 by omega), h8 a (by omega), nI_1]
    rw [ih, srch_s]
    by_cases c : hr a = 0
    · rw [if_pos c, if_pos c]
    · rw [if_neg c, if_neg c]
      by_cases c2 : sm (ahF hr sc a) nj = i
      · rw [if_pos c2, if_pos c2, if_neg (nI_ne_m1 (by omega))]
      · rw [if_neg c2, if_neg c2]
theorem sm_more {f : Nat → Int32} {m : Nat} : ∀ {e : Nat}, (∀ t, m ≤ t → t < m + e → f t = 0) → sm f (m + e) = sm f m
  | 0, _ => rfl
  | e + 1, h => by
    rw [show m + (e + 1) = (m + e) + 1 from rfl, sm_succ, sm_more (fun t h1 h2 => h t h1 (by omega)), h (m + e) (by omega) (by omega), i_a0]
theorem ahF_congr {hr sc sc2 : Nat → Int32} {j nj : Nat} (hj : j < nj) (h : ∀ t, t < nj → sc t = sc2 t) : sm (ahF hr sc j) nj = sm (ahF hr sc2 j) nj := sm_congr (fun t ht => by
  unfold ahF
  rw [h t ht, h j hj])
/-- both searches find the same -/
theorem srch_same {M N : Mem} (hI : Inv M) {nr n : Nat} (hnr : nr ≤ 40) (er : M.1 11 17 = nI nr) (en : M.1 11 25 = nI n) (hn : n ≤ 100) {nj : Nat} (ej : M.1 11 12 = nI nj) (hnj : nj ≤ 8) (hv : ∀ j, j < 8 → N.1 47 j = scO M nr n 8 j) (i : Int32) : srch (fun t => hrv (M.1 84) t n) (fun j => sm (ahF (fun t => hrv (M.1 84) t n) (N.1 47) j) 8) i 8 0 = srch (fun t => hrv (M.1 84) t n) (fun j => sm (ahF (fun t => hrv (M.1 84) t n) (fun t => sc' M nr n t nj) j) nj) i nj 0 := by
  have hz : ∀ t, nj ≤ t → t < 8 → hrv (M.1 84) t n = 0 := by
    intro t h1 h2
    rcases hrv_or (M.1 84) t n with ⟨q, -⟩ | ⟨-, i', q1, q2⟩
    · exact q
    · exact absurd q2 (norow hI.rr hnr er en hn ej hnj h1 h2 i' q1)
  have hsc : ∀ t, t < nj → N.1 47 t = sc' M nr n t nj := by
    intro t ht
    rw [hv t (by omega)]
    unfold scO sc'
    rw [if_pos (by omega)]
    have e1 : tR M nr n t 8 = tR M nr n t nj := by
      unfold tR
      rw [show 8 = nj + (8 - nj) by omega]
      refine sm_more (fun u h1 h2 => ?_)
      rw [if_neg (by omega)]
      exact loo_0 (Or.inr (norow hI.rr hnr er en hn ej hnj h1 (by omega)))
    have e2 : tC M nr n t 8 = tC M nr n t nj := by
      unfold tC
      rw [show 8 = nj + (8 - nj) by omega]
      refine sm_more (fun u h1 h2 => ?_)
      rw [if_neg (by omega)]
      exact loo_0 (Or.inl (norow hI.rr hnr er en hn ej hnj h1 (by omega)))
    rw [e1, e2]
  have e0 : srch (fun t => hrv (M.1 84) t n) (fun j => sm (ahF (fun t => hrv (M.1 84) t n) (N.1 47) j) 8) i 8 0 = srch (fun t => hrv (M.1 84) t n) (fun j => sm (ahF (fun t => hrv (M.1 84) t n) (N.1 47) j) 8) i nj 0 := by
    have := srch_more (hr := fun t => hrv (M.1 84) t n) (ah := fun j => sm (ahF (fun t => hrv (M.1 84) t n) (N.1 47) j) 8) (i := i) (nj := nj) (d := nj) (x := 0) (e := 8 - nj) (fun t h1 h2 => hz t h1 (by omega)) (by omega)
    rw [show nj + (8 - nj) = 8 by omega] at this
    exact this
  rw [e0]
  refine srch_congr (fun t _ ht => ⟨rfl, ?_⟩)
  rw [← ahF_congr (show t < nj by omega) hsc]
  have := sm_more (f := ahF (fun t => hrv (M.1 84) t n) (N.1 47) t) (m := nj) (e := 8 - nj) (fun u h1 h2 => if_pos (hz u h1 (by omega)))
  rw [show nj + (8 - nj) = 8 by omega] at this
  exact this
theorem st_order {M : Mem} (hI : Inv M) (v1 : Int32) : ∃ (r : Int32) (M1 M2 : Mem), f_X10_order v1 M = some (r, M1) ∧ f_X11_order v1 M1 = some (r, M2) ∧ Inv M2 := by
  obtain ⟨nr, hnr, er, -⟩ := hI.r
  obtain ⟨n, hn, en, -⟩ := hI.w
  obtain ⟨nj, hnj, ej, -⟩ := hI.j
  by_cases h1 : 0 ≤ v1
  case neg => exact ⟨fdv 1, fdC M 1, fdM (fdC M 1) 1, by simp only [f_X10_order, e_X10_isWithin, e_X11_isIn, e_X1_isKind, e_X10_isRater, e_X10_isPace, e_X10_isWeek, e_X10_isWorker, e_X10_isCause, e_X11_isPace, e_X11_isWeek, e_X11_isWorker, e_X11_isElement, e_X11_isJob, bE_s, bI, bM, jn, one_ne0, e_fdC1, e_fdM1, e_fdC2, e_fdM2, e_fdC3, e_fdM3, e_fdC4, e_fdM4, e_fdC5, e_fdM5, h1, if_true, if_false], by simp only [f_X11_order, e_X10_isWithin, e_X11_isIn, e_X1_isKind, e_X10_isRater, e_X10_isPace, e_X10_isWeek, e_X10_isWorker, e_X10_isCause, e_X11_isPace, e_X11_isWeek, e_X11_isWorker, e_X11_isElement, e_X11_isJob, bE_s, bI, bM, jn, one_ne0, e_fdC1, e_fdM1, e_fdC2, e_fdM2, e_fdC3, e_fdM3, e_fdC4, e_fdM4, e_fdC5, e_fdM5, h1, fdC_at (show (11 : Nat) ≠ 12 by decide), if_true, if_false], inv_fd hI 1⟩
  obtain ⟨N, n1, n2⟩ := e_survey hI hnr er en hn
  obtain ⟨N2, m1, m2, m3⟩ := e_jobAt hI hnr er en hn n2 v1
  rw [srch_same hI hnr er en hn ej hnj m3 v1] at m1
  obtain ⟨k, hk⟩ := FU_pos (d := nj) (by omega)
  have hIN := m2.1.inv hI
  rcases srch_or (hr := fun t => hrv (M.1 84) t n) (ah := fun j => sm (ahF (fun t => hrv (M.1 84) t n) (fun t => sc' M nr n t nj) j) nj) (i := v1) (d := nj) (x := 0) with q | ⟨y, hy, q⟩
  · rw [q] at m1
    have hR : Rr (fdC M 2) := hI.rr
    obtain ⟨N3, p1, p2⟩ := l_X11_o12 (M := fdC M 2) hR hnr er en hn ej hnj v1 nj 0 k (fdC N2 2) (by omega) ⟨m2.1.fdC 2, fun j hj => absurd hj (Nat.not_lt_zero j)⟩
    rw [← hk] at p1
    have ejN : N3.1 11 12 = nI nj := by rw [p2.1 11 (Or.inl (by decide))]; exact ej
    have hlast := fun K => l_X11_o154 (M := M) (N := N3) ejN hnj (hr := fun t => hrv (M.1 84) t n) (sc := fun t => sc' M nr n t nj) (fun t ht => (p2.2 t ht).1) (fun t ht => (p2.2 t ht).2) v1 K nj 0 k (by omega)
    rw [← hk] at hlast
    refine ⟨fdv 2, fdC N2 2, fdM N3 2, ?_, ?_, (p2.1.fdM 2).inv (inv_fd hI 2)⟩
    · simp only [f_X10_order, f_X10_orNone, e_X10_isWithin, e_X11_isIn, e_X1_isKind, e_X10_isRater, e_X10_isPace, e_X10_isWeek, e_X10_isWorker, e_X10_isCause, e_X11_isPace, e_X11_isWeek, e_X11_isWorker, e_X11_isElement, e_X11_isJob, bE_s, bI, bM, jn, one_ne0, e_fdC1, e_fdM1, e_fdC2, e_fdM2, e_fdC3, e_fdM3, e_fdC4, e_fdM4, e_fdC5, e_fdM5, h1, if_true, n1, m1]
    · unfold f_X11_order
      rw [if_pos h1]
      refine (p1 _).trans ((hlast _).trans ?_)
      rw [q, if_pos rfl, e_fdM2, bE_s]
  · rw [q] at m1
    obtain ⟨N3, p1, p2⟩ := l_X11_o12 (M := M) hI.rr hnr er en hn ej hnj v1 nj 0 k N2 (by omega) ⟨m2.1, fun j hj => absurd hj (Nat.not_lt_zero j)⟩
    rw [← hk] at p1
    have ejN : N3.1 11 12 = nI nj := by rw [p2.1 11 (Or.inl (by decide))]; exact ej
    have hlast := fun K => l_X11_o154 (M := M) (N := N3) ejN hnj (hr := fun t => hrv (M.1 84) t n) (sc := fun t => sc' M nr n t nj) (fun t ht => (p2.2 t ht).1) (fun t ht => (p2.2 t ht).2) v1 K nj 0 k (by omega)
    rw [← hk] at hlast
    refine ⟨nI y, N2, N3, ?_, ?_, p2.1.inv hI⟩
    · simp only [f_X10_order, f_X10_orNone, e_X10_isWithin, e_X11_isIn, e_X1_isKind, e_X10_isRater, e_X10_isPace, e_X10_isWeek, e_X10_isWorker, e_X10_isCause, e_X11_isPace, e_X11_isWeek, e_X11_isWorker, e_X11_isElement, e_X11_isJob, bE_s, bI, bM, jn, one_ne0, e_fdC1, e_fdM1, e_fdC2, e_fdM2, e_fdC3, e_fdM3, e_fdC4, e_fdM4, e_fdC5, e_fdM5, h1, if_true, n1, m1, nI_ne_m1 (show y < 2 ^ 31 by omega), if_false]
    · unfold f_X11_order
      rw [if_pos h1]
      refine (p1 _).trans ((hlast _).trans ?_)
      rw [q, if_neg (nI_ne_m1 (show y < 2 ^ 31 by omega))]
