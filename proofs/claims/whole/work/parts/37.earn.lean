/-! WHAT ROWS EARN -/
def Rr (M : Mem) : Prop := M.1 4 6 = M.1 11 17 ∧ M.1 26 = M.1 77 ∧ M.1 27 = M.1 78 ∧ M.1 30 = M.1 80 ∧ M.1 6 10 = M.1 11 25 ∧ M.1 33 = M.1 82 ∧ M.1 34 = M.1 83 ∧ M.1 35 = M.1 84 ∧ M.1 36 = M.1 85 ∧ M.1 37 = M.1 86 ∧ M.1 38 = M.1 87 ∧ M.1 39 = M.1 88 ∧ M.1 40 = M.1 93 ∧ M.1 7 4 = M.1 11 33 ∧ M.1 41 = M.1 89 ∧ M.1 42 = M.1 90 ∧ M.1 43 = M.1 92 ∧ GJ (M.1 11 12) (M.1 73) (M.1 74) (M.1 75) ∧ GR (M.1 11 7) (M.1 69) (M.1 73) (M.1 74) (M.1 75) (M.1 11 17) (M.1 77) (M.1 78) (M.1 79) (M.1 28) ∧ GU (M.1 80) ∧ GW (M.1 11 17) (M.1 77) (M.1 78) (M.1 11 25) (M.1 82) (M.1 83) (M.1 84) (M.1 85) (M.1 86) (M.1 87) (M.1 88) ∧ GA (M.1 11 33) (M.1 89) (M.1 90) (M.1 91) (M.1 92) (M.1 44) ∧ GB (M.1 93)
theorem Rr.rates {M : Mem} (h : Rr M) : M.1 4 6 = M.1 11 17 := h.1
theorem Rr.rOf {M : Mem} (h : Rr M) : M.1 26 = M.1 77 := h.2.1
theorem Rr.rFrom {M : Mem} (h : Rr M) : M.1 27 = M.1 78 := h.2.2.1
theorem Rr.rules {M : Mem} (h : Rr M) : M.1 30 = M.1 80 := h.2.2.2.1
theorem Rr.rows {M : Mem} (h : Rr M) : M.1 6 10 = M.1 11 25 := h.2.2.2.2.1
theorem Rr.wWeek {M : Mem} (h : Rr M) : M.1 33 = M.1 82 := h.2.2.2.2.2.1
theorem Rr.wWorker {M : Mem} (h : Rr M) : M.1 34 = M.1 83 := h.2.2.2.2.2.2.1
theorem Rr.wJob {M : Mem} (h : Rr M) : M.1 35 = M.1 84 := h.2.2.2.2.2.2.2.1
theorem Rr.wGood {M : Mem} (h : Rr M) : M.1 36 = M.1 85 := h.2.2.2.2.2.2.2.2.1
theorem Rr.wSpoilt {M : Mem} (h : Rr M) : M.1 37 = M.1 86 := h.2.2.2.2.2.2.2.2.2.1
theorem Rr.wMin {M : Mem} (h : Rr M) : M.1 38 = M.1 87 := h.2.2.2.2.2.2.2.2.2.2.1
theorem Rr.wWat {M : Mem} (h : Rr M) : M.1 39 = M.1 88 := h.2.2.2.2.2.2.2.2.2.2.2.1
theorem Rr.began {M : Mem} (h : Rr M) : M.1 40 = M.1 93 := h.2.2.2.2.2.2.2.2.2.2.2.2.1
theorem Rr.waits {M : Mem} (h : Rr M) : M.1 7 4 = M.1 11 33 := h.2.2.2.2.2.2.2.2.2.2.2.2.2.1
theorem Rr.aWeek {M : Mem} (h : Rr M) : M.1 41 = M.1 89 := h.2.2.2.2.2.2.2.2.2.2.2.2.2.2.1
theorem Rr.aWorker {M : Mem} (h : Rr M) : M.1 42 = M.1 90 := h.2.2.2.2.2.2.2.2.2.2.2.2.2.2.2.1
theorem Rr.aMin {M : Mem} (h : Rr M) : M.1 43 = M.1 92 := h.2.2.2.2.2.2.2.2.2.2.2.2.2.2.2.2.1
theorem Rr.j {M : Mem} (h : Rr M) : GJ (M.1 11 12) (M.1 73) (M.1 74) (M.1 75) := h.2.2.2.2.2.2.2.2.2.2.2.2.2.2.2.2.2.1
theorem Rr.r {M : Mem} (h : Rr M) : GR (M.1 11 7) (M.1 69) (M.1 73) (M.1 74) (M.1 75) (M.1 11 17) (M.1 77) (M.1 78) (M.1 79) (M.1 28) := h.2.2.2.2.2.2.2.2.2.2.2.2.2.2.2.2.2.2.1
theorem Rr.u {M : Mem} (h : Rr M) : GU (M.1 80) := h.2.2.2.2.2.2.2.2.2.2.2.2.2.2.2.2.2.2.2.1
theorem Rr.w {M : Mem} (h : Rr M) : GW (M.1 11 17) (M.1 77) (M.1 78) (M.1 11 25) (M.1 82) (M.1 83) (M.1 84) (M.1 85) (M.1 86) (M.1 87) (M.1 88) := h.2.2.2.2.2.2.2.2.2.2.2.2.2.2.2.2.2.2.2.2.1
theorem Rr.a {M : Mem} (h : Rr M) : GA (M.1 11 33) (M.1 89) (M.1 90) (M.1 91) (M.1 92) (M.1 44) := h.2.2.2.2.2.2.2.2.2.2.2.2.2.2.2.2.2.2.2.2.2.1
theorem Rr.b {M : Mem} (h : Rr M) : GB (M.1 93) := h.2.2.2.2.2.2.2.2.2.2.2.2.2.2.2.2.2.2.2.2.2.2
theorem Inv.rr {M : Mem} (h : Inv M) : Rr M := ⟨h.rel.rates, h.rel.rOf, h.rel.rFrom, h.rel.rules, h.rel.rows, h.rel.wWeek, h.rel.wWorker, h.rel.wJob, h.rel.wGood, h.rel.wSpoilt, h.rel.wMin, h.rel.wWat, h.rel.began, h.rel.waits, h.rel.aWeek, h.rel.aWorker, h.rel.aMin, h.j, h.r, h.u, h.w, h.a, h.b⟩
theorem q_inForce {M : Mem} (h : Rr M) {n : Nat} (hn : n ≤ 40) (e : M.1 11 17 = nI n) (v w : Int32) : f_X4_inForce v w M = some (lst (pF (M.1 77) (M.1 78) v w) n, M) := by
  obtain ⟨k, hk⟩ := FU_pos (d := n) (by omega)
  unfold f_X4_inForce bI
  rw [h.rates, e, hk]
  refine (l_X4_inForce v w M n k hn).trans ?_
  rw [h.rOf, h.rFrom]
theorem q_sumOf {M : Mem} (h : Rr M) {n r : Nat} (e : M.1 11 17 = nI n) (hn : n ≤ 40) (hr : r < n) : f_X11_sumOf (nI r) M = some (M.1 28 r, M) := by
  obtain ⟨k, k1, k2, k3⟩ := h.r
  have : k = n := (nI_eq (by omega) (by omega)).mp (k2.symm.trans e)
  subst this
  obtain ⟨-, -, j, a3, a4, a5, -⟩ := k3 r hr
  obtain ⟨nj, -, -, hp⟩ := h.j
  obtain ⟨p, p1, p2, -⟩ := hp j a3
  rw [p2, nI_clamp (by omega)] at a5
  obtain ⟨z, hz⟩ := FU_pos (d := p) (by omega)
  unfold f_X11_sumOf
  rw [hz, a5]
  exact l_X11_sumOf M (fun w2 w3 M4 => some (w2, M4)) (by omega) a3 p1 a4 p2 p 0 z (by omega)
theorem sm_isN {f : Nat → Int32} {B : Nat} : ∀ {n : Nat}, (∀ j, j < n → isN B (f j)) → isN (n * B) (sm f n)
  | 0, _ => ⟨0, Nat.zero_le _, rfl⟩
  | n + 1, h => by
    obtain ⟨x, hx, ex⟩ := sm_isN (fun j hj => h j (Nat.lt_succ_of_lt hj))
    obtain ⟨y, hy, ey⟩ := h n (Nat.lt_succ_self n)
    refine ⟨x + y, ?_, ?_⟩
    · rw [Nat.succ_mul]; omega
    · rw [sm_succ, ex, ey, nI_add]
theorem isN_mono {B C : Nat} {x : Int32} (h : isN B x) (hb : B ≤ C) : isN C x := by
  obtain ⟨n, hn, e⟩ := h
  exact ⟨n, by omega, e⟩
theorem isN_mul {A B : Nat} {x y : Int32} (h : isN A x) (k : isN B y) : isN (A * B) (x * y) := by
  obtain ⟨a, ha, rfl⟩ := h
  obtain ⟨b, hb, rfl⟩ := k
  exact ⟨a * b, Nat.mul_le_mul ha hb, pk_mul a b⟩
theorem isN_add {A B : Nat} {x y : Int32} (h : isN A x) (k : isN B y) : isN (A + B) (x + y) := by
  obtain ⟨a, ha, rfl⟩ := h
  obtain ⟨b, hb, rfl⟩ := k
  exact ⟨a + b, by omega, nI_add a b⟩
theorem isN_div {A d : Nat} {x : Int32} (h : isN A x) (hA : A < 2 ^ 31) (h0 : 0 < d) (hd : d < 2 ^ 31) : isN (A / d) (x / nI d) := by
  obtain ⟨a, ha, rfl⟩ := h
  exact ⟨a / d, Nat.div_le_div_right ha, pk_div (by omega) h0 hd⟩
theorem sum_N {M : Mem} (h : Rr M) {n r : Nat} (e : M.1 11 17 = nI n) (hn : n ≤ 40) (hr : r < n) : isN 432000 (M.1 28 r) := by
  obtain ⟨k, k1, k2, k3⟩ := h.r
  have : k = n := (nI_eq (by omega) (by omega)).mp (k2.symm.trans e)
  subst this
  obtain ⟨-, a2, j, a3, a4, a5, -⟩ := k3 r hr
  obtain ⟨nj, -, -, hp⟩ := h.j
  obtain ⟨p, p1, p2, -, p4⟩ := hp j a3
  rw [p2, nI_clamp (by omega)] at a5
  rw [a5]
  refine isN_mono (sm_isN (B := 8000 * 9) (fun i hi => isN_mul (a2 i (by omega) (fun j2 hj2 ej2 => by have q : j2 = j := (nI_eq (by omega) (by omega)).mp (ej2.symm.trans a4); rw [q, p2, nI_clamp (by omega)]; exact hi)) ?_)) ?_
  · obtain ⟨x, -, hx, ex⟩ := (p4 i hi).2.1
    exact ⟨x, hx, ex⟩
  · have : p * (8000 * 9) ≤ 6 * (8000 * 9) := Nat.mul_le_mul_right _ p1
    omega
theorem row_rate {M : Mem} (h : Rr M) {nr n i : Nat} (hnr : nr ≤ 40) (er : M.1 11 17 = nI nr) (en : M.1 11 25 = nI n) (hn : n ≤ 100) (hi : i < n) : ∃ r : Nat, r < nr ∧ lst (pF (M.1 77) (M.1 78) (M.1 84 i) (M.1 82 i)) nr = nI r := by
  obtain ⟨k, k1, k2, k3⟩ := h.w
  have : k = n := (nI_eq (by omega) (by omega)).mp (k2.symm.trans en)
  subst this
  obtain ⟨-, -, -, -, -, -, -, r, r1, r2, r3⟩ := k3 i hi
  rw [er, nI_clamp (by omega)] at r1
  have hp : pF (M.1 77) (M.1 78) (M.1 84 i) (M.1 82 i) r = true := pF_i.mpr ⟨r2, fun q => by rw [i_lt] at q; rw [i_le] at r3; omega⟩
  rcases lst_or (pF (M.1 77) (M.1 78) (M.1 84 i) (M.1 82 i)) nr with q | ⟨r', q1, q2, -⟩
  · exact absurd q (lst_some (by omega) r1 hp)
  · exact ⟨r', q1, q2⟩
theorem row_at {M : Mem} (h : Rr M) {n i : Nat} (en : M.1 11 25 = nI n) (hn : n ≤ 100) (hi : i < n) (k : Option Ret) : gV (M.1 83 i * 8 + M.1 84 i) 64 k = k := by
  obtain ⟨k', k1, k2, k3⟩ := h.w
  have : k' = n := (nI_eq (by omega) (by omega)).mp (k2.symm.trans en)
  subst this
  obtain ⟨-, ⟨x, hx, ex⟩, ⟨j, hj, ej⟩, -⟩ := k3 i hi
  rw [ex, ej, m8', gV_nI (by omega) (by decide)]
def pdv (M : Mem) (i : Nat) : Int32 := M.1 85 i + (if (M.1 85 i * M.1 80 3) / 100 < M.1 86 i then (M.1 85 i * M.1 80 3) / 100 else M.1 86 i)
def plv (M : Mem) (nr i : Nat) : Int32 := (pdv M i * M.1 28 (lst (pF (M.1 77) (M.1 78) (M.1 84 i) (M.1 82 i)) nr).toNatClampNeg) / 100
def bgv (M : Mem) (i : Nat) : Int32 := M.1 93 (M.1 83 i * 8 + M.1 84 i).toNatClampNeg
def mor (p b w : Int32) : Int32 := if b = -1 then 0 else if wi (w - b) 0 3 = 0 then 0 else if w - b = 0 then p / 2 else p / 4
def erv (M : Mem) (nr i : Nat) : Int32 := plv M nr i + mor (plv M nr i) (bgv M i) (M.1 82 i)
theorem cl2 : (2 : Int32).toNatClampNeg = 2 := by decide
theorem cl3 : (3 : Int32).toNatClampNeg = 3 := by decide
theorem cl4 : (4 : Int32).toNatClampNeg = 4 := by decide
theorem cl0 : (0 : Int32).toNatClampNeg = 0 := by decide
theorem cl1 : (1 : Int32).toNatClampNeg = 1 := by decide
theorem gv2 (k : Option Ret) : gV (2 : Int32) 5 k = k := if_neg (by decide)
theorem gv3 (k : Option Ret) : gV (3 : Int32) 5 k = k := if_neg (by decide)
theorem gv4 (k : Option Ret) : gV (4 : Int32) 5 k = k := if_neg (by decide)
theorem gv0 (k : Option Ret) : gV (0 : Int32) 5 k = k := if_neg (by decide)
theorem gv1 (k : Option Ret) : gV (1 : Int32) 5 k = k := if_neg (by decide)
theorem e_X9_earnedBy {M : Mem} (h : Rr M) {nr n i : Nat} (hnr : nr ≤ 40) (er : M.1 11 17 = nI nr) (en : M.1 11 25 = nI n) (hn : n ≤ 100) (hi : i < n) : f_X9_earnedBy (nI i) M = some (erv M nr i, M) := by
  obtain ⟨r, hr, lr⟩ := row_rate h hnr er en hn hi
  have hp : plv M nr i = (pdv M i * M.1 28 r) / 100 := by unfold plv; rw [lr, nI_clamp (by omega)]
  unfold erv mor
  rw [hp]
  unfold pdv bgv
  have g100 : ∀ k : Option Ret, gV (nI i) 100 k = k := fun k => gV_nI (by omega) (by decide)
  by_cases h1 : M.1 93 (M.1 83 i * 8 + M.1 84 i).toNatClampNeg = -1
  · simp only [f_X9_earnedBy, f_X9_learnersMore, f_X5_valueOf, g100, nI_clamp (show i < 2 ^ 31 by omega), h.wWeek, h.wWorker, h.wJob, h.wGood, h.wSpoilt, h.began, h.rules, q_inForce h hnr er, lr, bE_s, bI, nI_ne_m1 (show r < 2 ^ 31 by omega), if_false, gv3, cl3, e_X4_sumOf M (show r < 40 by omega), row_at h en hn hi, h1, if_true]
  · by_cases h2 : wi (M.1 82 i - M.1 93 (M.1 83 i * 8 + M.1 84 i).toNatClampNeg) 0 3 = 0
    · simp only [f_X9_earnedBy, f_X9_learnersMore, f_X5_valueOf, g100, nI_clamp (show i < 2 ^ 31 by omega), h.wWeek, h.wWorker, h.wJob, h.wGood, h.wSpoilt, h.began, h.rules, q_inForce h hnr er, lr, bE_s, bI, nI_ne_m1 (show r < 2 ^ 31 by omega), if_false, gv3, cl3, e_X4_sumOf M (show r < 40 by omega), row_at h en hn hi, h1, h2, e_X10_isWithin, if_true]
    · by_cases h3 : M.1 82 i - M.1 93 (M.1 83 i * 8 + M.1 84 i).toNatClampNeg = 0
      · simp only [f_X9_earnedBy, f_X9_learnersMore, f_X5_valueOf, g100, nI_clamp (show i < 2 ^ 31 by omega), h.wWeek, h.wWorker, h.wJob, h.wGood, h.wSpoilt, h.began, h.rules, q_inForce h hnr er, lr, bE_s, bI, jn_ite, nI_ne_m1 (show r < 2 ^ 31 by omega), if_false, gv3, cl3, e_X4_sumOf M (show r < 40 by omega), row_at h en hn hi, h1, h2, e_X10_isWithin, if_true]
      · simp only [f_X9_earnedBy, f_X9_learnersMore, f_X5_valueOf, g100, nI_clamp (show i < 2 ^ 31 by omega), h.wWeek, h.wWorker, h.wJob, h.wGood, h.wSpoilt, h.began, h.rules, q_inForce h hnr er, lr, bE_s, bI, jn_ite, nI_ne_m1 (show r < 2 ^ 31 by omega), if_false, gv3, cl3, e_X4_sumOf M (show r < 40 by omega), row_at h en hn hi, h1, h2, e_X10_isWithin, if_true]
theorem mn_eq (x y : Int32) : (if x ≤ y then x else y) = if x < y then x else y := by
  by_cases h : x ≤ y
  · rw [if_pos h]
    by_cases h2 : x < y
    · rw [if_pos h2]
    · rw [if_neg h2, i_eq]
      rw [i_le] at h
      rw [i_lt] at h2
      omega
  · rw [if_neg h, if_neg]
    intro q
    rw [i_le] at h
    rw [i_lt] at q
    omega
/-- a join whose second branch is guarded -/
theorem jn_g {α : Type} {c : Prop} [Decidable c] (K : α → Option Ret) (x y : α) (g : Option Ret → Option Ret) (hg : ∀ k, g k = k) : jn (α := α → Option Ret) K (fun J => if c then J x else g (J y)) = K (if c then x else y) := by
  unfold jn
  by_cases h : c
  · simp only [h, if_true]
  · simp only [h, if_false, hg]
theorem mor_m (p : Int32) {b w : Int32} (hb : b = -1 ∨ isN 500 b) (hw : isN 500 w) : p + mor p b w = (if b < 0 then p else if w = b then p + p / 2 else if wi (w - b) 1 3 = 0 then p else p + p / 4) := by
  unfold mor
  rcases hb with rfl | ⟨y, hy, rfl⟩
  · rw [if_pos rfl, if_pos (by decide)]
    exact Int32.add_zero p
  · obtain ⟨x, hx, rfl⟩ := hw
    rw [if_neg (nI_ne_m1 (by omega)), if_neg (nI_pos (by omega))]
    have ed : (nI x - nI y).toInt = (x : Int) - y := pk_sub_toInt (by omega) (by omega)
    have a0 : (0 : Int32).toInt = 0 := rfl
    have a1 : (1 : Int32).toInt = 1 := rfl
    have a3 : (3 : Int32).toInt = 3 := rfl
    have key : ∀ z lo hi : Int32, wi z lo hi = 0 ↔ (z.toInt < lo.toInt ∨ hi.toInt < z.toInt) := by
      intro z lo hi
      constructor
      · intro h
        rcases wi_0 h with q | q
        · exact Or.inl (i_lt.mp q)
        · exact Or.inr (i_lt.mp q)
      · intro h
        rcases Classical.em (wi z lo hi = 0) with q | q
        · exact q
        · obtain ⟨b1, b2⟩ := wi_1 q
          rcases h with w | w
          · exact absurd (i_lt.mpr w) b1
          · exact absurd (i_lt.mpr w) b2
    by_cases hxy : x = y
    · subst hxy
      have h1 : ¬ wi (nI x - nI x) 0 3 = 0 := by rw [key, ed, a0, a3]; omega
      have h2 : nI x - nI x = 0 := by rw [i_eq, ed, a0]; omega
      rw [if_neg h1, if_pos h2, if_pos rfl]
    · have h2 : ¬ nI x - nI y = 0 := by rw [i_eq, ed, a0]; omega
      have h3 : ¬ nI x = nI y := fun q => hxy ((nI_eq (by omega) (by omega)).mp q)
      rw [if_neg h2, if_neg h3]
      by_cases h4 : wi (nI x - nI y) 1 3 = 0
      · have h5 : wi (nI x - nI y) 0 3 = 0 := by
          rw [key, ed, a1, a3] at h4
          rw [key, ed, a0, a3]
          omega
        rw [if_pos h4, if_pos h5]
        exact Int32.add_zero p
      · have h5 : ¬ wi (nI x - nI y) 0 3 = 0 := by
          rw [key, ed, a1, a3] at h4
          rw [key, ed, a0, a3]
          omega
        rw [if_neg h4, if_neg h5]
theorem e_X11_earnedBy {M : Mem} (h : Rr M) {nr n i : Nat} (hnr : nr ≤ 40) (er : M.1 11 17 = nI nr) (en : M.1 11 25 = nI n) (hn : n ≤ 100) (hi : i < n) : f_X11_earnedBy (nI i) M = some (erv M nr i, M) := by
  obtain ⟨r, hr, lr⟩ := row_rate h hnr er en hn hi
  have hp : plv M nr i = (pdv M i * M.1 28 r) / 100 := by unfold plv; rw [lr, nI_clamp (by omega)]
  have hw : isN 500 (M.1 82 i) := by
    obtain ⟨k, k1, k2, k3⟩ := h.w
    have : k = n := (nI_eq (by omega) (by omega)).mp (k2.symm.trans en)
    subst this
    exact (k3 i hi).1
  unfold erv
  rw [mor_m (b := bgv M i) _ (h.b _) hw, hp]
  unfold pdv bgv
  rw [← mn_eq]
  have g100 : ∀ k : Option Ret, gV (nI i) 100 k = k := fun k => gV_nI (by omega) (by decide)
  have g64 := fun k => row_at h en hn hi k
  rw [show M.1 83 i * 8 + M.1 84 i = 8 * M.1 83 i + M.1 84 i by rw [Int32.mul_comm]] at g64 ⊢
  by_cases hm : M.1 85 i * M.1 80 3 / 100 ≤ M.1 86 i
  · by_cases h1 : M.1 93 (8 * M.1 83 i + M.1 84 i).toNatClampNeg < 0
    · simp only [f_X11_earnedBy, jn, g100, nI_clamp (show i < 2 ^ 31 by omega), gv3, cl3, bI, hm, if_true, e_X11_forceOf hnr er, lr, bE_s, q_sumOf h er hnr hr, g64, h1]
    · by_cases h2 : M.1 82 i = M.1 93 (8 * M.1 83 i + M.1 84 i).toNatClampNeg
      · simp only [f_X11_earnedBy, jn, g100, nI_clamp (show i < 2 ^ 31 by omega), gv3, cl3, bI, hm, if_true, if_false, e_X11_forceOf hnr er, lr, bE_s, q_sumOf h er hnr hr, g64, h1]
        rw [if_pos h2, if_pos h2]
      · by_cases h3 : wi (M.1 82 i - M.1 93 (8 * M.1 83 i + M.1 84 i).toNatClampNeg) 1 3 = 0
        · simp only [f_X11_earnedBy, jn, g100, nI_clamp (show i < 2 ^ 31 by omega), gv3, cl3, bI, hm, if_true, if_false, e_X11_forceOf hnr er, lr, bE_s, q_sumOf h er hnr hr, g64, h1, h2, e_X11_isIn, h3]
        · simp only [f_X11_earnedBy, jn, g100, nI_clamp (show i < 2 ^ 31 by omega), gv3, cl3, bI, hm, if_true, if_false, e_X11_forceOf hnr er, lr, bE_s, q_sumOf h er hnr hr, g64, h1, h2, e_X11_isIn, h3]
  · by_cases h1 : M.1 93 (8 * M.1 83 i + M.1 84 i).toNatClampNeg < 0
    · simp only [f_X11_earnedBy, jn, g100, nI_clamp (show i < 2 ^ 31 by omega), gv3, cl3, bI, hm, if_true, if_false, e_X11_forceOf hnr er, lr, bE_s, q_sumOf h er hnr hr, g64, h1]
    · by_cases h2 : M.1 82 i = M.1 93 (8 * M.1 83 i + M.1 84 i).toNatClampNeg
      · simp only [f_X11_earnedBy, jn, g100, nI_clamp (show i < 2 ^ 31 by omega), gv3, cl3, bI, hm, if_true, if_false, e_X11_forceOf hnr er, lr, bE_s, q_sumOf h er hnr hr, g64, h1]
        rw [if_pos h2, if_pos h2]
      · by_cases h3 : wi (M.1 82 i - M.1 93 (8 * M.1 83 i + M.1 84 i).toNatClampNeg) 1 3 = 0
        · simp only [f_X11_earnedBy, jn, g100, nI_clamp (show i < 2 ^ 31 by omega), gv3, cl3, bI, hm, if_true, if_false, e_X11_forceOf hnr er, lr, bE_s, q_sumOf h er hnr hr, g64, h1, h2, e_X11_isIn, h3]
        · simp only [f_X11_earnedBy, jn, g100, nI_clamp (show i < 2 ^ 31 by omega), gv3, cl3, bI, hm, if_true, if_false, e_X11_forceOf hnr er, lr, bE_s, q_sumOf h er hnr hr, g64, h1, h2, e_X11_isIn, h3]
theorem erv_N {M : Mem} (h : Rr M) {nr n i : Nat} (hnr : nr ≤ 40) (er : M.1 11 17 = nI nr) (en : M.1 11 25 = nI n) (hn : n ≤ 100) (hi : i < n) : isN 12947040 (erv M nr i) := by
  obtain ⟨r, hr, lr⟩ := row_rate h hnr er en hn hi
  have hp : plv M nr i = (pdv M i * M.1 28 r) / 100 := by unfold plv; rw [lr, nI_clamp (by omega)]
  have hs := sum_N h er hnr hr
  obtain ⟨k, k1, k2, k3⟩ := h.w
  have : k = n := (nI_eq (by omega) (by omega)).mp (k2.symm.trans en)
  subst this
  obtain ⟨b1, b2, b3, b4, b5, -⟩ := k3 i hi
  have hf : isN 100 (M.1 80 3) := h.u 3 (by decide)
  have hfr : isN 999 ((M.1 85 i * M.1 80 3) / 100) := isN_div (isN_mul b4 hf) (by decide) (d := 100) (by decide) (by decide)
  have hpd : isN 1998 (pdv M i) := by
    unfold pdv
    refine isN_add (A := 999) (B := 999) b4 ?_
    by_cases q : (M.1 85 i * M.1 80 3) / 100 < M.1 86 i
    · rw [if_pos q]; exact hfr
    · rw [if_neg q]; exact b5
  have hpl : isN 8631360 (plv M nr i) := by
    rw [hp]
    exact isN_div (isN_mul hpd hs) (by decide) (d := 100) (by decide) (by decide)
  unfold erv
  refine isN_add (A := 8631360) (B := 4315680) hpl ?_
  unfold mor
  by_cases q1 : bgv M i = -1
  · rw [if_pos q1]; exact isN_0 _
  · rw [if_neg q1]
    by_cases q2 : wi (M.1 82 i - bgv M i) 0 3 = 0
    · rw [if_pos q2]; exact isN_0 _
    · rw [if_neg q2]
      by_cases q3 : M.1 82 i - bgv M i = 0
      · rw [if_pos q3]; exact isN_div hpl (by decide) (d := 2) (by decide) (by decide)
      · rw [if_neg q3]; exact isN_mono (isN_div hpl (by decide) (d := 4) (by decide) (by decide)) (by decide)
theorem st_earned {M : Mem} (hI : Inv M) (v1 : Int32) : ∃ (r : Int32) (M1 M2 : Mem), f_X10_earned v1 M = some (r, M1) ∧ f_X11_earned v1 M1 = some (r, M2) ∧ Inv M2 := by
  obtain ⟨nr, hnr, er, -⟩ := hI.r
  obtain ⟨n, hn, en, -⟩ := hI.w
  have em : M.1 6 10 = nI n := hI.rel.rows.trans en
  by_cases h1 : hs v1 (nI n) = 0
  · refine ⟨fdv 1, fdC M 1, fdM (fdC M 1) 1, ?_, ?_, inv_fd hI 1⟩
    · simp only [f_X10_earned, e_X9_many, e_X10_isWithin, e_X11_isIn, e_X1_isKind, e_X10_isRater, e_X10_isPace, e_X10_isWeek, e_X10_isWorker, e_X10_isCause, e_X11_isPace, e_X11_isWeek, e_X11_isWorker, e_X11_isElement, e_X11_isJob, bE_s, bI, bM, jn, one_ne0, e_fdC1, e_fdM1, e_fdC2, e_fdM2, e_fdC3, e_fdM3, e_fdC4, e_fdM4, e_fdC5, e_fdM5, em, hs_wi (show n < 2 ^ 30 by omega), h1, if_true]
    · simp only [f_X11_earned, e_X10_isWithin, e_X11_isIn, e_X1_isKind, e_X10_isRater, e_X10_isPace, e_X10_isWeek, e_X10_isWorker, e_X10_isCause, e_X11_isPace, e_X11_isWeek, e_X11_isWorker, e_X11_isElement, e_X11_isJob, bE_s, bI, bM, jn, one_ne0, e_fdC1, e_fdM1, e_fdC2, e_fdM2, e_fdC3, e_fdM3, e_fdC4, e_fdM4, e_fdC5, e_fdM5, fdC_at (show (11 : Nat) ≠ 12 by decide), en]
      unfold hs at h1
      by_cases q : v1 < 0
      · simp only [q, if_true]
      · by_cases q2 : nI n ≤ v1
        · simp only [q, q2, if_true, if_false]
        · simp only [q, q2, if_false, one_ne0] at h1
  · obtain ⟨i, hi, rfl⟩ := hs_nat (by omega) h1
    refine ⟨erv M nr i, M, M, ?_, ?_, hI⟩
    · simp only [f_X10_earned, e_X9_many, e_X10_isWithin, e_X11_isIn, e_X1_isKind, e_X10_isRater, e_X10_isPace, e_X10_isWeek, e_X10_isWorker, e_X10_isCause, e_X11_isPace, e_X11_isWeek, e_X11_isWorker, e_X11_isElement, e_X11_isJob, bE_s, bI, bM, jn, one_ne0, e_fdC1, e_fdM1, e_fdC2, e_fdM2, e_fdC3, e_fdM3, e_fdC4, e_fdM4, e_fdC5, e_fdM5, em, hs_wi (show n < 2 ^ 30 by omega), h1, if_false, e_X9_earnedBy hI.rr hnr er en hn hi]
    · simp only [f_X11_earned, e_X10_isWithin, e_X11_isIn, e_X1_isKind, e_X10_isRater, e_X10_isPace, e_X10_isWeek, e_X10_isWorker, e_X10_isCause, e_X11_isPace, e_X11_isWeek, e_X11_isWorker, e_X11_isElement, e_X11_isJob, bE_s, bI, bM, jn, one_ne0, e_fdC1, e_fdM1, e_fdC2, e_fdM2, e_fdC3, e_fdM3, e_fdC4, e_fdM4, e_fdC5, e_fdM5, en, nI_pos (show i < 2 ^ 31 by omega), nI_ge hi (show n < 2 ^ 31 by omega), if_false, e_X11_earnedBy hI.rr hnr er en hn hi]
