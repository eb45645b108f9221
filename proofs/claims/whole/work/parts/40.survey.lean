/-! THE SURVEY -/
/-- the same, but for what survey and order scribble -/
def Sc (M N : Mem) : Prop := ∀ q : Nat, (q < 46 ∨ (47 < q ∧ q < 98)) → N.1 q = M.1 q
theorem Sc.eqv {M N : Mem} (h : Sc M N) : Eqv M N := ⟨h 12 (Or.inl (by decide)), h 13 (Or.inl (by decide)), h 14 (Or.inl (by decide)), h 15 (Or.inl (by decide)), h 16 (Or.inl (by decide)), h 17 (Or.inl (by decide)), h 18 (Or.inl (by decide)), h 19 (Or.inl (by decide)), h 20 (Or.inl (by decide)), h 22 (Or.inl (by decide)), h 23 (Or.inl (by decide)), h 24 (Or.inl (by decide)), h 25 (Or.inl (by decide)), h 26 (Or.inl (by decide)), h 27 (Or.inl (by decide)), h 28 (Or.inl (by decide)), h 29 (Or.inl (by decide)), h 30 (Or.inl (by decide)), h 32 (Or.inl (by decide)), h 33 (Or.inl (by decide)), h 34 (Or.inl (by decide)), h 35 (Or.inl (by decide)), h 36 (Or.inl (by decide)), h 37 (Or.inl (by decide)), h 38 (Or.inl (by decide)), h 39 (Or.inl (by decide)), h 40 (Or.inl (by decide)), h 41 (Or.inl (by decide)), h 42 (Or.inl (by decide)), h 43 (Or.inl (by decide)), h 44 (Or.inl (by decide)), h 66 (Or.inr ⟨by decide, by decide⟩), h 67 (Or.inr ⟨by decide, by decide⟩), h 68 (Or.inr ⟨by decide, by decide⟩), h 69 (Or.inr ⟨by decide, by decide⟩), h 70 (Or.inr ⟨by decide, by decide⟩), h 71 (Or.inr ⟨by decide, by decide⟩), h 72 (Or.inr ⟨by decide, by decide⟩), h 73 (Or.inr ⟨by decide, by decide⟩), h 74 (Or.inr ⟨by decide, by decide⟩), h 75 (Or.inr ⟨by decide, by decide⟩), h 76 (Or.inr ⟨by decide, by decide⟩), h 77 (Or.inr ⟨by decide, by decide⟩), h 78 (Or.inr ⟨by decide, by decide⟩), h 79 (Or.inr ⟨by decide, by decide⟩), h 80 (Or.inr ⟨by decide, by decide⟩), h 81 (Or.inr ⟨by decide, by decide⟩), h 82 (Or.inr ⟨by decide, by decide⟩), h 83 (Or.inr ⟨by decide, by decide⟩), h 84 (Or.inr ⟨by decide, by decide⟩), h 85 (Or.inr ⟨by decide, by decide⟩), h 86 (Or.inr ⟨by decide, by decide⟩), h 87 (Or.inr ⟨by decide, by decide⟩), h 88 (Or.inr ⟨by decide, by decide⟩), h 89 (Or.inr ⟨by decide, by decide⟩), h 90 (Or.inr ⟨by decide, by decide⟩), h 91 (Or.inr ⟨by decide, by decide⟩), h 92 (Or.inr ⟨by decide, by decide⟩), h 93 (Or.inr ⟨by decide, by decide⟩), h 94 (Or.inr ⟨by decide, by decide⟩), h 95 (Or.inr ⟨by decide, by decide⟩), congrFun (h 0 (Or.inl (by decide))) 12, congrFun (h 0 (Or.inl (by decide))) 13, congrFun (h 1 (Or.inl (by decide))) 1, congrFun (h 1 (Or.inl (by decide))) 2, congrFun (h 1 (Or.inl (by decide))) 3, congrFun (h 2 (Or.inl (by decide))) 3, congrFun (h 2 (Or.inl (by decide))) 8, congrFun (h 3 (Or.inl (by decide))) 4, congrFun (h 4 (Or.inl (by decide))) 6, congrFun (h 5 (Or.inl (by decide))) 3, congrFun (h 6 (Or.inl (by decide))) 10, congrFun (h 7 (Or.inl (by decide))) 4, congrFun (h 11 (Or.inl (by decide))) 0, congrFun (h 11 (Or.inl (by decide))) 2, congrFun (h 11 (Or.inl (by decide))) 3, congrFun (h 11 (Or.inl (by decide))) 4, congrFun (h 11 (Or.inl (by decide))) 7, congrFun (h 11 (Or.inl (by decide))) 12, congrFun (h 11 (Or.inl (by decide))) 17, congrFun (h 11 (Or.inl (by decide))) 21, congrFun (h 11 (Or.inl (by decide))) 24, congrFun (h 11 (Or.inl (by decide))) 25, congrFun (h 11 (Or.inl (by decide))) 33, congrFun (h 11 (Or.inl (by decide))) 39⟩
theorem Sc.inv {M N : Mem} (h : Sc M N) (hI : Inv M) : Inv N := Inv.go h.eqv hI
theorem Sc.rf (M : Mem) : Sc M M := fun _ _ => rfl
theorem Sc.tr {M N O : Mem} (h : Sc M N) (k : Sc N O) : Sc M O := fun q hq => (k q hq).trans (h q hq)
theorem Sc.upL {M N : Mem} {j : Nat} {x : Int64} (h : Sc M N) : Sc M (upL N j x) := h
theorem sc_erv {M N : Mem} (h : Sc M N) (nr i : Nat) : erv N nr i = erv M nr i := by
  unfold erv plv pdv bgv
  rw [h 28 (Or.inl (by decide)), h 77 (Or.inr ⟨by decide, by decide⟩), h 78 (Or.inr ⟨by decide, by decide⟩), h 80 (Or.inr ⟨by decide, by decide⟩), h 82 (Or.inr ⟨by decide, by decide⟩), h 83 (Or.inr ⟨by decide, by decide⟩), h 84 (Or.inr ⟨by decide, by decide⟩), h 85 (Or.inr ⟨by decide, by decide⟩), h 86 (Or.inr ⟨by decide, by decide⟩), h 93 (Or.inr ⟨by decide, by decide⟩)]
theorem up2_same (M : Mem) (q j : Nat) (x : Int32) : (up2 M q j x).1 q = upd (M.1 q) j x := if_pos rfl
theorem up2_ne {M : Mem} {q r j : Nat} {x : Int32} (h : r ≠ q) : (up2 M q j x).1 r = M.1 r := if_neg h
theorem Sc.up {M N : Mem} {q j : Nat} {x : Int32} (h : Sc M N) (hq : ¬ (q < 46 ∨ (47 < q ∧ q < 98))) : Sc M (up2 N q j x) := fun k hk => (up2_ne (fun e => hq (by rw [← e]; exact hk))).trans (h k hk)
theorem l_fill (q N : Nat) (hN : N < 2 ^ 31) (v : Int32) : ∀ (d a k : Nat) (M : Mem), a + d = N → ∃ M' : Mem, f_J7_fill_53178_L5 q N v (nI N) (k + (d + 1)) (nI a) M (fun w3 M4 => some (0, M4)) = some (0, M') ∧ M'.2 = M.2 ∧ (∀ r, r ≠ q → M'.1 r = M.1 r) ∧ (∀ j, a ≤ j → j < N → M'.1 q j = v) ∧ (∀ j, j < a ∨ N ≤ j → M'.1 q j = M.1 q j)
  | 0, a, k, M, hh => by
    have : a = N := by omega
    subst this
    refine ⟨M, ?_, rfl, fun _ _ => rfl, fun j h1 h2 => absurd h1 (by omega), fun _ _ => rfl⟩
    rw [show k + (0 + 1) = k + 1 from rfl, f_J7_fill_53178_L5, if_pos (nI_le (Nat.le_refl a) (by omega))]
  | d + 1, a, k, M, hh => by
    obtain ⟨M', h1, h2, h3, h4, h5⟩ := l_fill q N hN v d (a + 1) k (up2 M q a v) (by omega)
    refine ⟨M', ?_, h2, fun r hr => (h3 r hr).trans (up2_ne hr), fun j hj1 hj2 => ?_, fun j hj => ?_⟩
    · rw [show k + (d + 1 + 1) = (k + (d + 1)) + 1 from rfl, f_J7_fill_53178_L5, if_neg (nI_ge (show a < N by omega) (by omega)), gV_nI (by omega) hN, nI_clamp (by omega)]
      unfold bM
      rw [nI_1]
      exact h1
    · by_cases c : j = a
      · subst c
        rw [h5 j (Or.inl (by omega)), up2_same, upd_s]
      · exact h4 j (by omega) hj2
    · rw [h5 j (by omega), up2_same, upd_n (by omega)]
theorem e_fill (q N : Nat) (hN : N < 15000) (v : Int32) (M : Mem) : ∃ M' : Mem, f_J7_fill_53178 q N v M = some (0, M') ∧ M'.2 = M.2 ∧ (∀ r, r ≠ q → M'.1 r = M.1 r) ∧ (∀ j, j < N → M'.1 q j = v) ∧ (∀ j, N ≤ j → M'.1 q j = M.1 q j) := by
  obtain ⟨k, hk⟩ := FU_pos (d := N) (by omega)
  obtain ⟨M', h1, h2, h3, h4, h5⟩ := l_fill q N (by omega) v N 0 k M (by omega)
  refine ⟨M', ?_, h2, h3, fun j hj => h4 j (by omega) hj, fun j hj => h5 j (Or.inr hj)⟩
  unfold f_J7_fill_53178 bI
  rw [hk]
  exact h1
theorem l_fillL : ∀ (d a k : Nat) (M : Mem), a + d = 64 → ∃ M' : Mem, f_J7_fill_d0a16_L6 0 64 (k + (d + 1)) (nI a) M (fun w3 M4 => some (0, M4)) = some (0, M') ∧ M'.1 = M.1 ∧ (∀ j, a ≤ j → j < 64 → M'.2 j = 0) ∧ (∀ j, j < a → M'.2 j = M.2 j)
  | 0, a, k, M, hh => by
    have : a = 64 := by omega
    subst this
    refine ⟨M, ?_, rfl, fun j h1 h2 => absurd h1 (by omega), fun _ _ => rfl⟩
    rw [show k + (0 + 1) = k + 1 from rfl, f_J7_fill_d0a16_L6, if_pos (show (64 : Int32) ≤ nI 64 by decide)]
  | d + 1, a, k, M, hh => by
    obtain ⟨M', h1, h2, h4, h5⟩ := l_fillL d (a + 1) k (upL M a 0) (by omega)
    refine ⟨M', ?_, h2, fun j hj1 hj2 => ?_, fun j hj => ?_⟩
    · rw [show k + (d + 1 + 1) = (k + (d + 1)) + 1 from rfl, f_J7_fill_d0a16_L6, if_neg (show ¬ (64 : Int32) ≤ nI a from nI_ge (b := 64) (show a < 64 by omega) (by decide)), gV_nI (by omega) (by decide), nI_clamp (by omega)]
      unfold bM
      rw [nI_1]
      exact h1
    · by_cases c : j = a
      · subst c
        rw [h5 j (by omega)]
        exact pk_uLs
      · exact h4 j (by omega) hj2
    · rw [h5 j (by omega)]
      exact pk_uLn (by omega)
theorem e_fillL (M : Mem) : ∃ M' : Mem, f_J7_fill_d0a16 0 M = some (0, M') ∧ M'.1 = M.1 ∧ (∀ j, j < 64 → M'.2 j = 0) := by
  obtain ⟨k, hk⟩ := FU_pos (d := 64) (by omega)
  obtain ⟨M', h1, h2, h4, -⟩ := l_fillL 64 0 k M (by omega)
  refine ⟨M', ?_, h2, fun j hj => h4 j (by omega) hj⟩
  unfold f_J7_fill_d0a16
  rw [hk]
  exact h1
/-- minutes and earnings of a worker on a job -/
def mN (M : Mem) (x j n : Nat) : Nat := smN (fun i => if M.1 83 i = nI x ∧ M.1 84 i = nI j then (M.1 87 i).toNatClampNeg else 0) n
def eN (M : Mem) (nr x j n : Nat) : Nat := smN (fun i => if M.1 83 i = nI x ∧ M.1 84 i = nI j then (erv M nr i).toNatClampNeg else 0) n
theorem mN_s (M : Mem) (x j n : Nat) : mN M x j (n + 1) = mN M x j n + if M.1 83 n = nI x ∧ M.1 84 n = nI j then (M.1 87 n).toNatClampNeg else 0 := rfl
theorem eN_s (M : Mem) (nr x j n : Nat) : eN M nr x j (n + 1) = eN M nr x j n + if M.1 83 n = nI x ∧ M.1 84 n = nI j then (erv M nr n).toNatClampNeg else 0 := rfl
/-- N has the survey of the first n rows of M -/
def SV (M N : Mem) (nr n : Nat) : Prop := Sc M N ∧ ∀ x, x < 8 → ∀ j, j < 8 → N.1 46 (8 * x + j) = nI (mN M x j n) ∧ N.2 (8 * x + j) = lN (eN M nr x j n)
theorem row_xjm {M : Mem} (h : Rr M) {n a : Nat} (en : M.1 11 25 = nI n) (hn : n ≤ 100) (ha : a < n) : ∃ x j m : Nat, x ≤ 7 ∧ j ≤ 7 ∧ (1 ≤ m ∧ m ≤ 3000) ∧ M.1 83 a = nI x ∧ M.1 84 a = nI j ∧ M.1 87 a = nI m := by
  obtain ⟨kk, k1, k2, k3⟩ := h.w
  have : kk = n := (nI_eq (by omega) (by omega)).mp (k2.symm.trans en)
  subst this
  obtain ⟨-, ⟨xa, hxa, exa⟩, ⟨ja, hja, eja⟩, -, -, ⟨m, hm0, hm, em⟩, -⟩ := k3 a ha
  exact ⟨xa, ja, m, hxa, hja, ⟨hm0, hm⟩, exa, eja, em⟩
theorem erv_c {M : Mem} (h : Rr M) {nr n i : Nat} (hnr : nr ≤ 40) (er : M.1 11 17 = nI nr) (en : M.1 11 25 = nI n) (hn : n ≤ 100) (hi : i < n) : erv M nr i = nI (erv M nr i).toNatClampNeg ∧ (erv M nr i).toNatClampNeg < 2 ^ 31 := by
  obtain ⟨a1, a2⟩ := isN_nat (erv_N h hnr er en hn hi) (by decide)
  exact ⟨a1, Nat.lt_of_le_of_lt a2 (by decide)⟩
theorem survey_sv {M N : Mem} {nr a xa ja m : Nat} (hxa : xa ≤ 7) (hja : ja ≤ 7) (hm : 1 ≤ m ∧ m ≤ 3000) (exa : M.1 83 a = nI xa) (eja : M.1 84 a = nI ja) (em : M.1 87 a = nI m) (hs : SV M N nr a) : SV M (up2 (upL N (8 * xa + ja) (lN (eN M nr xa ja a + (erv M nr a).toNatClampNeg))) 46 (8 * xa + ja) (nI (mN M xa ja a + m))) nr (a + 1) := by
  obtain ⟨hs1, hs2⟩ := hs
  refine ⟨Sc.up (Sc.upL hs1) (by omega), fun x hx j hj => ?_⟩
  rw [up2_same, mN_s, eN_s, exa, eja, em, nI_clamp (by omega)]
  show upd (N.1 46) (8 * xa + ja) (nI (mN M xa ja a + m)) (8 * x + j) = _ ∧ vp_updL N.2 (8 * xa + ja) (lN (eN M nr xa ja a + (erv M nr a).toNatClampNeg)) (8 * x + j) = _
  by_cases q : x = xa ∧ j = ja
  · obtain ⟨rfl, rfl⟩ := q
    rw [upd_s, pk_uLs, if_pos ⟨rfl, rfl⟩, if_pos ⟨rfl, rfl⟩]
    exact ⟨rfl, rfl⟩
  · have q2 : ¬ (nI xa = nI x ∧ nI ja = nI j) := fun w => q ⟨((nI_eq (by omega) (by omega)).mp w.1).symm, ((nI_eq (by omega) (by omega)).mp w.2).symm⟩
    have q3 : 8 * x + j ≠ 8 * xa + ja := by
      intro w
      exact q ⟨by omega, by omega⟩
    rw [upd_n q3, pk_uLn q3, if_neg q2, if_neg q2]
    exact hs2 x hx j hj
theorem survey_un {M N : Mem} (hI : Inv M) {nr n : Nat} (hnr : nr ≤ 40) (er : M.1 11 17 = nI nr) (en : M.1 11 25 = nI n) (hn : n ≤ 100) {a xa ja m : Nat} (ha : a < n) (hxa : xa ≤ 7) (hja : ja ≤ 7) (exa : M.1 83 a = nI xa) (eja : M.1 84 a = nI ja) (em : M.1 87 a = nI m) (hs : SV M N nr a) (z : Nat) (K : Int32 → Mem → Option Ret) : f_X0_survey_L18 (z + 1) (nI a) N K = f_X0_survey_L18 z (nI (a + 1)) (up2 (upL N (8 * xa + ja) (lN (eN M nr xa ja a + (erv M nr a).toNatClampNeg))) 46 (8 * xa + ja) (nI (mN M xa ja a + m))) K := by
  have hIN := hs.1.inv hI
  have en' : N.1 11 25 = nI n := by rw [hs.1 11 (Or.inl (by decide)), en]
  have er' : N.1 11 17 = nI nr := by rw [hs.1 11 (Or.inl (by decide)), er]
  have e1 : N.1 6 10 = nI n := by rw [hIN.rel.rows, en']
  have g1 : N.1 34 a = nI xa := by rw [hIN.rel.wWorker, hs.1 83 (Or.inr ⟨by decide, by decide⟩), exa]
  have g2 : N.1 35 a = nI ja := by rw [hIN.rel.wJob, hs.1 84 (Or.inr ⟨by decide, by decide⟩), eja]
  have g3 : N.1 38 a = nI m := by rw [hIN.rel.wMin, hs.1 87 (Or.inr ⟨by decide, by decide⟩), em]
  have g4 : erv N nr a = nI (erv M nr a).toNatClampNeg := by rw [sc_erv hs.1]; exact (erv_c hI.rr hnr er en hn ha).1
  have g6 := (erv_c hI.rr hnr er en hn ha).2
  obtain ⟨c1, c2⟩ := hs.2 xa (by omega) ja (by omega)
  rw [f_X0_survey_L18, e_X9_many, bE_s, e1, if_neg (nI_ge ha (by omega))]
  simp only [f_X9_workerAt, f_X9_jobAt, f_X9_minutesAt, gV_nI (show a < 100 by omega) (show (100 : Nat) < 2 ^ 31 by decide), nI_clamp (show a < 2 ^ 31 by omega), bE_s, bI, bM, g1, g2, m8', gV_nI (show 8 * xa + ja < 64 by omega) (show (64 : Nat) < 2 ^ 31 by decide), nI_clamp (show 8 * xa + ja < 2 ^ 31 by omega), e_X9_earnedBy hIN.rr hnr er' en' hn ha, g4, nI_l g6, c2, lN_add, nI_1]
  have t1 : ∀ y : Int64, (upL N (8 * xa + ja) y).1 = N.1 := fun _ => rfl
  rw [t1, c1, g3, nI_add]
theorem l_survey {M : Mem} (hI : Inv M) {nr n : Nat} (hnr : nr ≤ 40) (er : M.1 11 17 = nI nr) (en : M.1 11 25 = nI n) (hn : n ≤ 100) (d : Nat) : ∀ (a k : Nat) (N : Mem), a + d = n → SV M N nr a → ∃ N' : Mem, f_X0_survey_L18 (k + (d + 1)) (nI a) N (fun w18 M19 => some (0, M19)) = some (0, N') ∧ SV M N' nr n := by
  induction d with
  | zero =>
    intro a k N hh hs
    have : a = n := by omega
    subst this
    have e1 : N.1 6 10 = nI a := by rw [(hs.1.inv hI).rel.rows, hs.1 11 (Or.inl (by decide)), en]
    refine ⟨N, ?_, hs⟩
    rw [show k + (0 + 1) = k + 1 from rfl, f_X0_survey_L18, e_X9_many, bE_s, e1, if_pos (nI_le (Nat.le_refl a) (by omega))]
  | succ d ih =>
    intro a k N hh hs
    obtain ⟨xa, ja, m, hxa, hja, hm, exa, eja, em⟩ := row_xjm hI.rr en hn (show a < n by omega)
    obtain ⟨N', n1, n2⟩ := ih (a + 1) k _ (by omega) (survey_sv hxa hja hm exa eja em hs)
    refine ⟨N', ?_, n2⟩
    rw [show k + (d + 1 + 1) = (k + (d + 1)) + 1 from rfl, survey_un hI hnr er en hn (show a < n by omega) hxa hja exa eja em hs]
    exact n1
theorem e_survey {M : Mem} (hI : Inv M) {nr n : Nat} (hnr : nr ≤ 40) (er : M.1 11 17 = nI nr) (en : M.1 11 25 = nI n) (hn : n ≤ 100) : ∃ N : Mem, f_X0_survey M = some (0, N) ∧ SV M N nr n := by
  obtain ⟨M1, a1, a2, a3⟩ := e_fillL M
  obtain ⟨M2, b1, b2, b3, b4, -⟩ := e_fill 46 64 (by decide) 0 M1
  obtain ⟨k, hk⟩ := FU_pos (d := n) (by omega)
  have h0 : SV M M2 nr 0 := by
    refine ⟨fun q hq => ?_, fun x hx j hj => ⟨b4 _ (by omega), ?_⟩⟩
    · rw [b3 q (by omega), a2]
    · rw [b2, a3 _ (by omega)]; rfl
  obtain ⟨N, n1, n2⟩ := l_survey hI hnr er en hn n 0 k M2 (by omega) h0
  refine ⟨N, ?_, n2⟩
  unfold f_X0_survey
  rw [a1, bE_s, b1, bE_s, hk]
  exact n1
theorem sum_dom {e m : Nat → Nat} {p : Nat → Prop} [∀ i, Decidable (p i)] {B C : Nat} : ∀ {n : Nat}, (∀ i, i < n → e i ≤ B ∧ 1 ≤ m i ∧ m i ≤ C) → smN (fun i => if p i then e i else 0) n ≤ B * smN (fun i => if p i then m i else 0) n ∧ smN (fun i => if p i then m i else 0) n ≤ n * C
  | 0, _ => ⟨Nat.zero_le _, Nat.zero_le _⟩
  | n + 1, h => by
    obtain ⟨i1, i2⟩ := sum_dom (p := p) (fun i hi => h i (Nat.lt_succ_of_lt hi))
    obtain ⟨h1, h2, h3⟩ := h n (Nat.lt_succ_self n)
    rw [smN_s, smN_s, Nat.mul_add, Nat.succ_mul]
    by_cases q : p n
    · rw [if_pos q, if_pos q]
      have := Nat.le_mul_of_pos_right B h2
      exact ⟨by omega, by omega⟩
    · rw [if_neg q, if_neg q]
      exact ⟨by omega, by omega⟩
theorem mN_pos {M : Mem} (h : Rr M) {n : Nat} (en : M.1 11 25 = nI n) (hn : n ≤ 100) (nr x j : Nat) (hnr : nr ≤ 40) (er : M.1 11 17 = nI nr) : eN M nr x j n ≤ 12947040 * mN M x j n ∧ mN M x j n ≤ 300000 := by
  have := sum_dom (e := fun i => (erv M nr i).toNatClampNeg) (m := fun i => (M.1 87 i).toNatClampNeg) (p := fun i => M.1 83 i = nI x ∧ M.1 84 i = nI j) (B := 12947040) (C := 3000) (n := n) (fun i hi => by
    obtain ⟨xa, ja, m, -, -, hm, -, -, em⟩ := row_xjm h en hn hi
    refine ⟨(isN_nat (erv_N h hnr er en hn hi) (by decide)).2, ?_⟩
    rw [em, nI_clamp (by omega)]
    exact hm)
  exact ⟨this.1, Nat.le_trans this.2 (Nat.mul_le_mul_right 3000 hn)⟩
theorem sc_mN {M N : Mem} (h : Sc M N) (x j n : Nat) : mN N x j n = mN M x j n := by
  unfold mN
  rw [h 83 (Or.inr ⟨by decide, by decide⟩), h 84 (Or.inr ⟨by decide, by decide⟩), h 87 (Or.inr ⟨by decide, by decide⟩)]
theorem sc_eN {M N : Mem} (h : Sc M N) (nr x j n : Nat) : eN N nr x j n = eN M nr x j n := by
  unfold eN
  rw [h 83 (Or.inr ⟨by decide, by decide⟩), h 84 (Or.inr ⟨by decide, by decide⟩)]
  exact smN_congr (fun i _ => by rw [sc_erv h])
def ef (M : Mem) (nr n x j : Nat) : Int32 := if mN M x j n = 0 then -1 else nI (100 * eN M nr x j n / mN M x j n)
theorem sc_ef {M N : Mem} (h : Sc M N) (nr n x j : Nat) : ef N nr n x j = ef M nr n x j := by
  unfold ef
  rw [sc_mN h, sc_eN h]
theorem ef_or {M : Mem} (h : Rr M) {nr n : Nat} (hnr : nr ≤ 40) (er : M.1 11 17 = nI nr) (en : M.1 11 25 = nI n) (hn : n ≤ 100) (x j : Nat) : ef M nr n x j = -1 ∨ isN 1294704000 (ef M nr n x j) := by
  unfold ef
  by_cases q : mN M x j n = 0
  · rw [if_pos q]; exact Or.inl rfl
  · rw [if_neg q]
    refine Or.inr ⟨_, ?_, rfl⟩
    obtain ⟨h1, h2⟩ := mN_pos h en hn nr x j hnr er
    refine Nat.div_le_of_le_mul ?_
    generalize eN M nr x j n = A at *
    generalize mN M x j n = B at *
    omega
theorem lN_ne0 {b : Nat} (h0 : 0 < b) (hb : b < 2 ^ 31) : ¬ lN b = 0 := fun q => absurd ((lN_eq (a := b) (b := 0) hb (by decide)).mp q) (by omega)
theorem eff_arith {A B : Nat} (h1 : A ≤ 12947040 * B) (h2 : B ≤ 300000) (h0 : 0 < B) : (((100 : Int64) * lN A) / lN B).toInt32 = nI (100 * A / B) := by
  rw [show (100 : Int64) = lN 100 from rfl, lN_mul, pk_lDiv (by omega) h0 (by omega), lN_i]
theorem e_X0_eff {M N : Mem} (h : Rr M) {nr n : Nat} (hnr : nr ≤ 40) (er : M.1 11 17 = nI nr) (en : M.1 11 25 = nI n) (hn : n ≤ 100) (hs : SV M N nr n) {x j : Nat} (hx : x < 8) (hj : j < 8) : f_X0_efficiencyOf (nI x) (nI j) N = some (ef M nr n x j, N) := by
  obtain ⟨c1, c2⟩ := hs.2 x hx j hj
  obtain ⟨h1, h2⟩ := mN_pos h en hn nr x j hnr er
  unfold f_X0_efficiencyOf
  simp only [bI, m8', gV_nI (show 8 * x + j < 64 by omega) (show (64 : Nat) < 2 ^ 31 by decide), nI_clamp (show 8 * x + j < 2 ^ 31 by omega), c1, c2, jn, ef]
  by_cases q : mN M x j n = 0
  · simp only [q, show nI 0 = 0 from rfl, if_true]
  · have q0 : 0 < mN M x j n := by omega
    simp only [nI_ne0 q0 (show mN M x j n < 2 ^ 31 by omega), if_false, nI_l (show mN M x j n < 2 ^ 31 by omega), gNL_n (lN_ne0 q0 (show mN M x j n < 2 ^ 31 by omega)), q, eff_arith h1 h2 q0]
theorem l_X11_eff {M : Mem} (h : Rr M) {nr n : Nat} (hnr : nr ≤ 40) (er : M.1 11 17 = nI nr) (en : M.1 11 25 = nI n) (hn : n ≤ 100) {x j : Nat} (K : Int64 → Int64 → Int32 → Mem → Option Ret) : ∀ (d a k : Nat), a + d = n → f_X11_efficiencyOf_L8 (nI x) (nI j) (k + (d + 1)) (lN (eN M nr x j a)) (lN (mN M x j a)) (nI a) M K = K (lN (eN M nr x j n)) (lN (mN M x j n)) (nI n) M
  | 0, a, k, hh => by
    have : a = n := by omega
    subst this
    rw [show k + (0 + 1) = k + 1 from rfl, f_X11_efficiencyOf_L8, en, if_pos (nI_le (Nat.le_refl a) (by omega))]
  | d + 1, a, k, hh => by
    have ih := l_X11_eff h hnr er en hn (x := x) (j := j) K d (a + 1) k (by omega)
    obtain ⟨xa, ja, m, hxa, hja, hm, exa, eja, em⟩ := row_xjm h en hn (show a < n by omega)
    obtain ⟨g4, gb⟩ := erv_c h hnr er en hn (show a < n by omega)
    have g5 : (erv M nr a).toInt64 = lN (erv M nr a).toNatClampNeg := by rw [← nI_l gb, ← g4]
    have g6 : (M.1 87 a).toInt64 = lN (M.1 87 a).toNatClampNeg := by rw [em, nI_clamp (by omega), nI_l (by omega)]
    rw [eN_s, mN_s] at ih
    rw [show k + (d + 1 + 1) = (k + (d + 1)) + 1 from rfl, f_X11_efficiencyOf_L8, en, if_neg (nI_ge (show a < n by omega) (by omega)), gV_nI (by omega) (by decide)]
    simp only [jn, gV_nI (show a < 100 by omega) (show (100 : Nat) < 2 ^ 31 by decide), nI_clamp (show a < 2 ^ 31 by omega), e_X11_earnedBy h hnr er en hn (show a < n by omega), bE_s, bI, nI_1, g5, g6, lN_add]
    by_cases c1 : M.1 83 a = nI x
    · by_cases c2 : M.1 84 a = nI j
      · simp only [c1, c2, if_true, and_self] at ih ⊢; exact ih
      · simp only [c1, c2, if_true, if_false, and_false, Nat.add_zero] at ih ⊢; exact ih
    · simp only [c1, if_false, false_and, Nat.add_zero] at ih ⊢; exact ih
theorem e_X11_eff {M : Mem} (h : Rr M) {nr n : Nat} (hnr : nr ≤ 40) (er : M.1 11 17 = nI nr) (en : M.1 11 25 = nI n) (hn : n ≤ 100) (x j : Nat) : f_X11_efficiencyOf (nI x) (nI j) M = some (ef M nr n x j, M) := by
  obtain ⟨h1, h2⟩ := mN_pos h en hn nr x j hnr er
  obtain ⟨k, hk⟩ := FU_pos (d := n) (by omega)
  unfold f_X11_efficiencyOf
  rw [hk]
  refine (l_X11_eff h hnr er en hn _ n 0 k (by omega)).trans ?_
  simp only [jn, ef, lg_cmp_eq]
  by_cases q : mN M x j n = 0
  · simp only [q, show lN 0 = 0 from rfl, if_true]
  · have q0 : 0 < mN M x j n := by omega
    simp only [lN_ne0 q0 (show mN M x j n < 2 ^ 31 by omega), if_false, gNL_n (lN_ne0 q0 (show mN M x j n < 2 ^ 31 by omega)), q, eff_arith h1 h2 q0]
theorem st_efficiency {M : Mem} (hI : Inv M) (v1 v2 : Int32) : ∃ (r : Int32) (M1 M2 : Mem), f_X10_efficiency v1 v2 M = some (r, M1) ∧ f_X11_efficiency v1 v2 M1 = some (r, M2) ∧ Inv M2 := by
  obtain ⟨nr, hnr, er, -⟩ := hI.r
  obtain ⟨n, hn, en, -⟩ := hI.w
  obtain ⟨nj, hnj, ej, -⟩ := hI.j
  by_cases h1 : wi v1 0 7 = 0
  · exact ⟨fdv 1, fdC M 1, fdM (fdC M 1) 1, by simp only [f_X10_efficiency, e_X10_isWithin, e_X11_isIn, e_X1_isKind, e_X10_isRater, e_X10_isPace, e_X10_isWeek, e_X10_isWorker, e_X10_isCause, e_X11_isPace, e_X11_isWeek, e_X11_isWorker, e_X11_isElement, e_X11_isJob, bE_s, bI, bM, jn, one_ne0, e_fdC1, e_fdM1, e_fdC2, e_fdM2, e_fdC3, e_fdM3, e_fdC4, e_fdM4, e_fdC5, e_fdM5, e_X2_has hI, h1, if_true, if_false], by simp only [f_X11_efficiency, e_X10_isWithin, e_X11_isIn, e_X1_isKind, e_X10_isRater, e_X10_isPace, e_X10_isWeek, e_X10_isWorker, e_X10_isCause, e_X11_isPace, e_X11_isWeek, e_X11_isWorker, e_X11_isElement, e_X11_isJob, bE_s, bI, bM, jn, one_ne0, e_fdC1, e_fdM1, e_fdC2, e_fdM2, e_fdC3, e_fdM3, e_fdC4, e_fdM4, e_fdC5, e_fdM5, e_X2_has hI, h1, fdC_at (show (11 : Nat) ≠ 12 by decide), if_true, if_false], inv_fd hI 1⟩
  by_cases h2 : hs v2 (M.1 11 12) = 0
  · exact ⟨fdv 1, fdC M 1, fdM (fdC M 1) 1, by simp only [f_X10_efficiency, e_X10_isWithin, e_X11_isIn, e_X1_isKind, e_X10_isRater, e_X10_isPace, e_X10_isWeek, e_X10_isWorker, e_X10_isCause, e_X11_isPace, e_X11_isWeek, e_X11_isWorker, e_X11_isElement, e_X11_isJob, bE_s, bI, bM, jn, one_ne0, e_fdC1, e_fdM1, e_fdC2, e_fdM2, e_fdC3, e_fdM3, e_fdC4, e_fdM4, e_fdC5, e_fdM5, e_X2_has hI, h1, h2, if_true, if_false], by simp only [f_X11_efficiency, e_X10_isWithin, e_X11_isIn, e_X1_isKind, e_X10_isRater, e_X10_isPace, e_X10_isWeek, e_X10_isWorker, e_X10_isCause, e_X11_isPace, e_X11_isWeek, e_X11_isWorker, e_X11_isElement, e_X11_isJob, bE_s, bI, bM, jn, one_ne0, e_fdC1, e_fdM1, e_fdC2, e_fdM2, e_fdC3, e_fdM3, e_fdC4, e_fdM4, e_fdC5, e_fdM5, e_X2_has hI, h1, h2, fdC_at (show (11 : Nat) ≠ 12 by decide), if_true, if_false], inv_fd hI 1⟩
  obtain ⟨x, -, hx, rfl⟩ := wi_nat (lo := 0) (hi := 7) (by decide) (by decide) h1
  have h2' := h2
  rw [ej] at h2'
  obtain ⟨j, hj, rfl⟩ := hs_nat (by omega) h2'
  obtain ⟨N, n1, n2⟩ := e_survey hI hnr er en hn
  have hIN := n2.1.inv hI
  have e11 : N.1 11 = M.1 11 := n2.1 11 (Or.inl (by decide))
  have h2N : ¬ hs (nI j) (N.1 11 12) = 0 := by rw [e11]; exact h2
  have erN : N.1 11 17 = nI nr := by rw [e11]; exact er
  have enN : N.1 11 25 = nI n := by rw [e11]; exact en
  have hef := e_X0_eff hI.rr hnr er en hn n2 (show x < 8 by omega) (show j < 8 by omega)
  rcases ef_or hI.rr hnr er en hn x j with q | ⟨z, hz, q⟩
  · refine ⟨fdv 2, fdC N 2, fdM (fdC N 2) 2, ?_, ?_, inv_fd hIN 2⟩
    · simp only [f_X10_efficiency, f_X10_orNone, e_X2_has hI, e_X10_isWithin, e_X11_isIn, e_X1_isKind, e_X10_isRater, e_X10_isPace, e_X10_isWeek, e_X10_isWorker, e_X10_isCause, e_X11_isPace, e_X11_isWeek, e_X11_isWorker, e_X11_isElement, e_X11_isJob, bE_s, bI, bM, jn, one_ne0, e_fdC1, e_fdM1, e_fdC2, e_fdM2, e_fdC3, e_fdM3, e_fdC4, e_fdM4, e_fdC5, e_fdM5, h1, h2, if_false, n1, hef, q, if_true]
    · have hR : Rr (fdC N 2) := hIN.rr
      have q2 : ef (fdC N 2) nr n x j = -1 := (show ef (fdC N 2) nr n x j = ef N nr n x j from rfl).trans ((sc_ef n2.1 nr n x j).trans q)
      simp only [f_X11_efficiency, e_X10_isWithin, e_X11_isIn, e_X1_isKind, e_X10_isRater, e_X10_isPace, e_X10_isWeek, e_X10_isWorker, e_X10_isCause, e_X11_isPace, e_X11_isWeek, e_X11_isWorker, e_X11_isElement, e_X11_isJob, bE_s, bI, bM, jn, one_ne0, e_fdC1, e_fdM1, e_fdC2, e_fdM2, e_fdC3, e_fdM3, e_fdC4, e_fdM4, e_fdC5, e_fdM5, fdC_at (show (11 : Nat) ≠ 12 by decide), h1, h2N, if_false, e_X11_eff hR hnr erN enN hn x j, q2, m1_nge]
  · refine ⟨nI z, N, N, ?_, ?_, hIN⟩
    · simp only [f_X10_efficiency, f_X10_orNone, e_X2_has hI, e_X10_isWithin, e_X11_isIn, e_X1_isKind, e_X10_isRater, e_X10_isPace, e_X10_isWeek, e_X10_isWorker, e_X10_isCause, e_X11_isPace, e_X11_isWeek, e_X11_isWorker, e_X11_isElement, e_X11_isJob, bE_s, bI, bM, jn, one_ne0, e_fdC1, e_fdM1, e_fdC2, e_fdM2, e_fdC3, e_fdM3, e_fdC4, e_fdM4, e_fdC5, e_fdM5, h1, h2, if_false, n1, hef, q, nI_ne_m1 (show z < 2 ^ 31 by omega)]
    · simp only [f_X11_efficiency, e_X10_isWithin, e_X11_isIn, e_X1_isKind, e_X10_isRater, e_X10_isPace, e_X10_isWeek, e_X10_isWorker, e_X10_isCause, e_X11_isPace, e_X11_isWeek, e_X11_isWorker, e_X11_isElement, e_X11_isJob, bE_s, bI, bM, jn, one_ne0, e_fdC1, e_fdM1, e_fdC2, e_fdM2, e_fdC3, e_fdM3, e_fdC4, e_fdM4, e_fdC5, e_fdM5, h1, h2N, if_false, e_X11_eff hIN.rr hnr erN enN hn x j, sc_ef n2.1 nr n x j, q, ge0_nI (show z < 2 ^ 31 by omega), if_true]
