/-! THE PURE PART: plain numbers -/
def sm (f : Nat → Int32) : Nat → Int32
  | 0 => 0
  | n + 1 => sm f n + f n
theorem sm_congr {f g : Nat → Int32} : ∀ {n : Nat}, (∀ j, j < n → f j = g j) → sm f n = sm g n
  | 0, _ => rfl
  | n + 1, h => by
    show sm f n + f n = sm g n + g n
    rw [sm_congr (fun j hj => h j (Nat.lt_succ_of_lt hj)), h n (Nat.lt_succ_self n)]
def isN (B : Nat) (x : Int32) : Prop := ∃ n : Nat, n ≤ B ∧ x = nI n
theorem isN_0 (B : Nat) : isN B 0 := ⟨0, Nat.zero_le B, rfl⟩
def wi (v lo hi : Int32) : Int32 := if v < lo then 0 else if hi < v then 0 else 1
def hs (v n : Int32) : Int32 := if v < 0 then 0 else if n ≤ v then 0 else 1
theorem gZ_0 {k : Option Ret} : gZ 0 k = k := if_pos (by decide)
theorem gZ_1 {k : Option Ret} : gZ 1 k = k := if_pos (by decide)
theorem gZ_wi {v lo hi : Int32} {k : Option Ret} : gZ (wi v lo hi) k = k := by
  unfold wi
  split
  · exact gZ_0
  · split
    · exact gZ_0
    · exact gZ_1
theorem gZ_hs {v n : Int32} {k : Option Ret} : gZ (hs v n) k = k := by
  unfold hs
  split
  · exact gZ_0
  · split
    · exact gZ_0
    · exact gZ_1
theorem gV_nI {a n : Nat} {k : Option Ret} (h : a < n) (hn : n < 2 ^ 31) : gV (nI a) n k = k := if_neg (nI_in h hn)
theorem bE_s {r : Int32} {M : Mem} {K : Int32 → Mem → Option Ret} : bE (some (r, M)) K = K r M := rfl
theorem wi_0 {v lo hi : Int32} (h : wi v lo hi = 0) : v < lo ∨ hi < v := by
  unfold wi at h
  split at h
  · exact Or.inl (by assumption)
  · split at h
    · exact Or.inr (by assumption)
    · exact absurd h (by decide)
theorem wi_1 {v lo hi : Int32} (h : ¬ wi v lo hi = 0) : ¬ v < lo ∧ ¬ hi < v := by
  refine ⟨fun q => h (if_pos q), fun q => h ?_⟩
  unfold wi
  by_cases h1 : v < lo
  · rw [if_pos h1]
  · rw [if_neg h1, if_pos q]
theorem i_lt {a b : Int32} : a < b ↔ a.toInt < b.toInt := Int32.lt_iff_toInt_lt
theorem i_le {a b : Int32} : a ≤ b ↔ a.toInt ≤ b.toInt := Int32.le_iff_toInt_le
theorem i_eq {a b : Int32} : a = b ↔ a.toInt = b.toInt := ⟨fun h => by rw [h], fun h => Int32.toInt_inj.mp h⟩
/-- within 0 .. a plain bound -/
theorem wi_nat {v : Int32} {lo hi : Nat} (hh : hi < 2 ^ 31) (hl : lo < 2 ^ 31) (h : ¬ wi v (nI lo) (nI hi) = 0) : ∃ j : Nat, lo ≤ j ∧ j ≤ hi ∧ v = nI j := by
  obtain ⟨h1, h2⟩ := wi_1 h
  rw [i_lt, nI_toInt hl] at h1
  rw [i_lt, nI_toInt hh] at h2
  refine ⟨v.toInt.toNat, by omega, by omega, ?_⟩
  rw [i_eq, nI_toInt (by omega)]
  omega
theorem hs_nat {v : Int32} {n : Nat} (hn : n < 2 ^ 31) (h : ¬ hs v (nI n) = 0) : ∃ j : Nat, j < n ∧ v = nI j := by
  have h1 : ¬ v < 0 := fun q => h (if_pos q)
  have h2 : ¬ nI n ≤ v := fun q => h (by unfold hs; rw [if_neg h1, if_pos q])
  rw [i_lt] at h1
  rw [i_le, nI_toInt hn] at h2
  have h0 : (0 : Int32).toInt = 0 := rfl
  rw [h0] at h1
  refine ⟨v.toInt.toNat, by omega, ?_⟩
  rw [i_eq, nI_toInt (by omega)]
  omega
theorem hs_wi {v : Int32} {n : Nat} (hn : n < 2 ^ 30) : wi v 0 (nI n - 1) = hs v (nI n) := by
  have e : nI n - 1 < v ↔ nI n ≤ v := by
    rw [i_lt, i_le, nI_toInt (by omega), show (1 : Int32) = nI 1 from rfl, pk_sub_toInt hn (by decide)]
    omega
  unfold wi hs
  by_cases h : nI n ≤ v
  · rw [if_pos h, if_pos (e.mpr h)]
  · rw [if_neg h, if_neg (fun q => h (e.mp q))]
/-! THE INVARIANT -/
def GE (n : Int32) (kinds : Nat → Int32) (base more : Int32) : Prop := isN 12 n ∧ (∀ j, isN 3 (kinds j)) ∧ isN 50 base ∧ isN 50 more
def GF (n : Int32) (fo fv tm fc : Nat → Int32) : Prop := ∃ k : Nat, k ≤ 20 ∧ n = nI k ∧ (∀ j, j < k → isN 3 (fo j) ∧ -100 ≤ (fv j).toInt ∧ (fv j).toInt ≤ 100) ∧ ∀ r, r < 4 → tm r = sm (fun j => if fo j = nI r then fv j else 0) k ∧ fc r = sm (fun j => if fo j = nI r then 1 else 0) k
def GC (n : Int32) (cb pc ti : Nat → Int32) : Prop := ∃ k : Nat, k ≤ 60 ∧ n = nI k ∧ ∀ j, j < k → isN 3 (cb j) ∧ (∃ x : Nat, 50 ≤ x ∧ x ≤ 150 ∧ pc j = nI x) ∧ ∃ x : Nat, 1 ≤ x ∧ x ≤ 999 ∧ ti j = nI x
def GJ (nj : Int32) (parts po ofn : Nat → Int32) : Prop := ∃ n : Nat, n ≤ 8 ∧ nj = nI n ∧ ∀ j, j < 8 → ∃ p : Nat, p ≤ 6 ∧ parts j = nI p ∧ (n ≤ j → p = 0) ∧ ∀ k, k < p → isN 11 (po (6 * j + k)) ∧ (∃ x : Nat, 1 ≤ x ∧ x ≤ 9 ∧ ofn (6 * j + k) = nI x) ∧ ∀ k', k' < k → po (6 * j + k') ≠ po (6 * j + k)
/-- a job has a rate -/
def hasR (n : Int32) (ro : Nat → Int32) (j : Int32) : Prop := ∃ r : Nat, r < n.toNatClampNeg ∧ ro r = j
def timed (nc : Int32) (co : Nat → Int32) (e : Int32) : Prop := ∃ c : Nat, c < nc.toNatClampNeg ∧ co c = e
def GR (nc : Int32) (co parts po ofn : Nat → Int32) (n : Int32) (ro rf wo sums : Nat → Int32) : Prop := ∃ k : Nat, k ≤ 40 ∧ n = nI k ∧ ∀ r, r < k → isN 552 (rf r) ∧ (∀ i, i < 6 → (∀ j, j < 8 → ro r = nI j → i < (parts j).toNatClampNeg) → isN 8000 (wo (6 * r + i))) ∧ ∃ j : Nat, j < 8 ∧ ro r = nI j ∧ sums r = sm (fun i => wo (6 * r + i) * ofn (6 * j + i)) (parts j).toNatClampNeg ∧ (∀ i, i < (parts j).toNatClampNeg → timed nc co (po (6 * j + i))) ∧ 0 < (parts j).toNatClampNeg
def GM (n : Int32) (ro parts im mk : Nat → Int32) : Prop := ∀ j, j < 8 → ∀ i, i < 6 → (im (6 * j + i) = 0 ∨ im (6 * j + i) = 1) ∧ (hasR n ro (nI j) → mk (6 * j + i) = im (6 * j + i)) ∧ (¬ hasR n ro (nI j) → im (6 * j + i) = 0 ∧ mk (6 * j + i) = if i < (parts j).toNatClampNeg then 1 else 0)
def GU (ru : Nat → Int32) : Prop := ∀ i, i < 5 → isN (if i = 1 then 52 else 100) (ru i)
def GT (n : Int32) (tape : Nat → Int32) : Prop := isN 60 n ∧ ∀ j, isN 255 (tape j)
def GW (nr : Int32) (ro rf : Nat → Int32) (n : Int32) (wk wr jb gd' sp mi wt : Nat → Int32) : Prop := ∃ k : Nat, k ≤ 100 ∧ n = nI k ∧ ∀ i, i < k → isN 500 (wk i) ∧ isN 7 (wr i) ∧ isN 7 (jb i) ∧ isN 999 (gd' i) ∧ isN 999 (sp i) ∧ (∃ x : Nat, 1 ≤ x ∧ x ≤ 3000 ∧ mi i = nI x) ∧ (wt i = 0 ∨ wt i = 1) ∧ ∃ r : Nat, r < nr.toNatClampNeg ∧ ro r = jb i ∧ rf r ≤ wk i
def GA (n : Int32) (wk wr cs mi mc : Nat → Int32) : Prop := ∃ k : Nat, k ≤ 60 ∧ n = nI k ∧ (∀ i, i < k → isN 500 (wk i) ∧ isN 7 (wr i) ∧ isN 3 (cs i) ∧ ∃ x : Nat, 1 ≤ x ∧ x ≤ 3000 ∧ mi i = nI x) ∧ ∀ c, c < 4 → mc c = sm (fun i => if cs i = nI c then mi i else 0) k
def GB (bg : Nat → Int32) : Prop := ∀ j, bg j = -1 ∨ isN 500 (bg j)
def GN (nn wk : Int32) : Prop := isN 8 nn ∧ isN 500 wk
def REL (M : Mem) : Prop := M.1 1 1 = M.1 11 0 ∧ M.1 1 2 = M.1 11 2 ∧ M.1 1 3 = M.1 11 3 ∧ M.1 14 = M.1 66 ∧ M.1 2 3 = M.1 11 4 ∧ M.1 2 8 = M.1 11 7 ∧ M.1 17 = M.1 69 ∧ M.1 18 = M.1 70 ∧ M.1 19 = M.1 71 ∧ M.1 20 = M.1 72 ∧ M.1 3 4 = M.1 11 12 ∧ M.1 22 = M.1 73 ∧ M.1 23 = M.1 74 ∧ M.1 24 = M.1 75 ∧ M.1 4 6 = M.1 11 17 ∧ M.1 26 = M.1 77 ∧ M.1 27 = M.1 78 ∧ M.1 29 = M.1 79 ∧ M.1 5 3 = M.1 11 24 ∧ M.1 30 = M.1 80 ∧ M.1 32 = M.1 81 ∧ M.1 6 10 = M.1 11 25 ∧ M.1 33 = M.1 82 ∧ M.1 34 = M.1 83 ∧ M.1 35 = M.1 84 ∧ M.1 36 = M.1 85 ∧ M.1 37 = M.1 86 ∧ M.1 38 = M.1 87 ∧ M.1 39 = M.1 88 ∧ M.1 40 = M.1 93 ∧ M.1 7 4 = M.1 11 33 ∧ M.1 41 = M.1 89 ∧ M.1 42 = M.1 90 ∧ M.1 43 = M.1 92 ∧ M.1 0 12 = M.1 11 39 ∧ M.1 13 = M.1 94 ∧ M.1 0 13 = M.1 11 21 ∧ M.1 12 = M.1 95
theorem REL.many {M : Mem} (h : REL M) : M.1 1 1 = M.1 11 0 := h.1
theorem REL.base {M : Mem} (h : REL M) : M.1 1 2 = M.1 11 2 := h.2.1
theorem REL.more {M : Mem} (h : REL M) : M.1 1 3 = M.1 11 3 := h.2.2.1
theorem REL.kinds {M : Mem} (h : REL M) : M.1 14 = M.1 66 := h.2.2.2.1
theorem REL.films {M : Mem} (h : REL M) : M.1 2 3 = M.1 11 4 := h.2.2.2.2.1
theorem REL.cycles {M : Mem} (h : REL M) : M.1 2 8 = M.1 11 7 := h.2.2.2.2.2.1
theorem REL.cOf {M : Mem} (h : REL M) : M.1 17 = M.1 69 := h.2.2.2.2.2.2.1
theorem REL.cBy {M : Mem} (h : REL M) : M.1 18 = M.1 70 := h.2.2.2.2.2.2.2.1
theorem REL.cPace {M : Mem} (h : REL M) : M.1 19 = M.1 71 := h.2.2.2.2.2.2.2.2.1
theorem REL.cTime {M : Mem} (h : REL M) : M.1 20 = M.1 72 := h.2.2.2.2.2.2.2.2.2.1
theorem REL.jobs {M : Mem} (h : REL M) : M.1 3 4 = M.1 11 12 := h.2.2.2.2.2.2.2.2.2.2.1
theorem REL.parts {M : Mem} (h : REL M) : M.1 22 = M.1 73 := h.2.2.2.2.2.2.2.2.2.2.2.1
theorem REL.pOf {M : Mem} (h : REL M) : M.1 23 = M.1 74 := h.2.2.2.2.2.2.2.2.2.2.2.2.1
theorem REL.often {M : Mem} (h : REL M) : M.1 24 = M.1 75 := h.2.2.2.2.2.2.2.2.2.2.2.2.2.1
theorem REL.rates {M : Mem} (h : REL M) : M.1 4 6 = M.1 11 17 := h.2.2.2.2.2.2.2.2.2.2.2.2.2.2.1
theorem REL.rOf {M : Mem} (h : REL M) : M.1 26 = M.1 77 := h.2.2.2.2.2.2.2.2.2.2.2.2.2.2.2.1
theorem REL.rFrom {M : Mem} (h : REL M) : M.1 27 = M.1 78 := h.2.2.2.2.2.2.2.2.2.2.2.2.2.2.2.2.1
theorem REL.worth {M : Mem} (h : REL M) : M.1 29 = M.1 79 := h.2.2.2.2.2.2.2.2.2.2.2.2.2.2.2.2.2.1
theorem REL.taped {M : Mem} (h : REL M) : M.1 5 3 = M.1 11 24 := h.2.2.2.2.2.2.2.2.2.2.2.2.2.2.2.2.2.2.1
theorem REL.rules {M : Mem} (h : REL M) : M.1 30 = M.1 80 := h.2.2.2.2.2.2.2.2.2.2.2.2.2.2.2.2.2.2.2.1
theorem REL.tape {M : Mem} (h : REL M) : M.1 32 = M.1 81 := h.2.2.2.2.2.2.2.2.2.2.2.2.2.2.2.2.2.2.2.2.1
theorem REL.rows {M : Mem} (h : REL M) : M.1 6 10 = M.1 11 25 := h.2.2.2.2.2.2.2.2.2.2.2.2.2.2.2.2.2.2.2.2.2.1
theorem REL.wWeek {M : Mem} (h : REL M) : M.1 33 = M.1 82 := h.2.2.2.2.2.2.2.2.2.2.2.2.2.2.2.2.2.2.2.2.2.2.1
theorem REL.wWorker {M : Mem} (h : REL M) : M.1 34 = M.1 83 := h.2.2.2.2.2.2.2.2.2.2.2.2.2.2.2.2.2.2.2.2.2.2.2.1
theorem REL.wJob {M : Mem} (h : REL M) : M.1 35 = M.1 84 := h.2.2.2.2.2.2.2.2.2.2.2.2.2.2.2.2.2.2.2.2.2.2.2.2.1
theorem REL.wGood {M : Mem} (h : REL M) : M.1 36 = M.1 85 := h.2.2.2.2.2.2.2.2.2.2.2.2.2.2.2.2.2.2.2.2.2.2.2.2.2.1
theorem REL.wSpoilt {M : Mem} (h : REL M) : M.1 37 = M.1 86 := h.2.2.2.2.2.2.2.2.2.2.2.2.2.2.2.2.2.2.2.2.2.2.2.2.2.2.1
theorem REL.wMin {M : Mem} (h : REL M) : M.1 38 = M.1 87 := h.2.2.2.2.2.2.2.2.2.2.2.2.2.2.2.2.2.2.2.2.2.2.2.2.2.2.2.1
theorem REL.wWat {M : Mem} (h : REL M) : M.1 39 = M.1 88 := h.2.2.2.2.2.2.2.2.2.2.2.2.2.2.2.2.2.2.2.2.2.2.2.2.2.2.2.2.1
theorem REL.began {M : Mem} (h : REL M) : M.1 40 = M.1 93 := h.2.2.2.2.2.2.2.2.2.2.2.2.2.2.2.2.2.2.2.2.2.2.2.2.2.2.2.2.2.1
theorem REL.waits {M : Mem} (h : REL M) : M.1 7 4 = M.1 11 33 := h.2.2.2.2.2.2.2.2.2.2.2.2.2.2.2.2.2.2.2.2.2.2.2.2.2.2.2.2.2.2.1
theorem REL.aWeek {M : Mem} (h : REL M) : M.1 41 = M.1 89 := h.2.2.2.2.2.2.2.2.2.2.2.2.2.2.2.2.2.2.2.2.2.2.2.2.2.2.2.2.2.2.2.1
theorem REL.aWorker {M : Mem} (h : REL M) : M.1 42 = M.1 90 := h.2.2.2.2.2.2.2.2.2.2.2.2.2.2.2.2.2.2.2.2.2.2.2.2.2.2.2.2.2.2.2.2.1
theorem REL.aMin {M : Mem} (h : REL M) : M.1 43 = M.1 92 := h.2.2.2.2.2.2.2.2.2.2.2.2.2.2.2.2.2.2.2.2.2.2.2.2.2.2.2.2.2.2.2.2.2.1
theorem REL.nums {M : Mem} (h : REL M) : M.1 0 12 = M.1 11 39 := h.2.2.2.2.2.2.2.2.2.2.2.2.2.2.2.2.2.2.2.2.2.2.2.2.2.2.2.2.2.2.2.2.2.2.1
theorem REL.num {M : Mem} (h : REL M) : M.1 13 = M.1 94 := h.2.2.2.2.2.2.2.2.2.2.2.2.2.2.2.2.2.2.2.2.2.2.2.2.2.2.2.2.2.2.2.2.2.2.2.1
theorem REL.week {M : Mem} (h : REL M) : M.1 0 13 = M.1 11 21 := h.2.2.2.2.2.2.2.2.2.2.2.2.2.2.2.2.2.2.2.2.2.2.2.2.2.2.2.2.2.2.2.2.2.2.2.2.1
theorem REL.found {M : Mem} (h : REL M) : M.1 12 = M.1 95 := h.2.2.2.2.2.2.2.2.2.2.2.2.2.2.2.2.2.2.2.2.2.2.2.2.2.2.2.2.2.2.2.2.2.2.2.2.2
def Inv (M : Mem) : Prop := REL M ∧ GE (M.1 11 0) (M.1 66) (M.1 11 2) (M.1 11 3) ∧ GF (M.1 11 4) (M.1 67) (M.1 68) (M.1 15) (M.1 16) ∧ GC (M.1 11 7) (M.1 70) (M.1 71) (M.1 72) ∧ GJ (M.1 11 12) (M.1 73) (M.1 74) (M.1 75) ∧ GR (M.1 11 7) (M.1 69) (M.1 73) (M.1 74) (M.1 75) (M.1 11 17) (M.1 77) (M.1 78) (M.1 79) (M.1 28) ∧ GM (M.1 11 17) (M.1 77) (M.1 73) (M.1 76) (M.1 25) ∧ GU (M.1 80) ∧ GT (M.1 11 24) (M.1 81) ∧ GW (M.1 11 17) (M.1 77) (M.1 78) (M.1 11 25) (M.1 82) (M.1 83) (M.1 84) (M.1 85) (M.1 86) (M.1 87) (M.1 88) ∧ GA (M.1 11 33) (M.1 89) (M.1 90) (M.1 91) (M.1 92) (M.1 44) ∧ GB (M.1 93) ∧ GN (M.1 11 39) (M.1 11 21)
theorem Inv.rel {M : Mem} (h : Inv M) : REL M := h.1
theorem Inv.e {M : Mem} (h : Inv M) : GE (M.1 11 0) (M.1 66) (M.1 11 2) (M.1 11 3) := h.2.1
theorem Inv.f {M : Mem} (h : Inv M) : GF (M.1 11 4) (M.1 67) (M.1 68) (M.1 15) (M.1 16) := h.2.2.1
theorem Inv.c {M : Mem} (h : Inv M) : GC (M.1 11 7) (M.1 70) (M.1 71) (M.1 72) := h.2.2.2.1
theorem Inv.j {M : Mem} (h : Inv M) : GJ (M.1 11 12) (M.1 73) (M.1 74) (M.1 75) := h.2.2.2.2.1
theorem Inv.r {M : Mem} (h : Inv M) : GR (M.1 11 7) (M.1 69) (M.1 73) (M.1 74) (M.1 75) (M.1 11 17) (M.1 77) (M.1 78) (M.1 79) (M.1 28) := h.2.2.2.2.2.1
theorem Inv.m {M : Mem} (h : Inv M) : GM (M.1 11 17) (M.1 77) (M.1 73) (M.1 76) (M.1 25) := h.2.2.2.2.2.2.1
theorem Inv.u {M : Mem} (h : Inv M) : GU (M.1 80) := h.2.2.2.2.2.2.2.1
theorem Inv.t {M : Mem} (h : Inv M) : GT (M.1 11 24) (M.1 81) := h.2.2.2.2.2.2.2.2.1
theorem Inv.w {M : Mem} (h : Inv M) : GW (M.1 11 17) (M.1 77) (M.1 78) (M.1 11 25) (M.1 82) (M.1 83) (M.1 84) (M.1 85) (M.1 86) (M.1 87) (M.1 88) := h.2.2.2.2.2.2.2.2.2.1
theorem Inv.a {M : Mem} (h : Inv M) : GA (M.1 11 33) (M.1 89) (M.1 90) (M.1 91) (M.1 92) (M.1 44) := h.2.2.2.2.2.2.2.2.2.2.1
theorem Inv.b {M : Mem} (h : Inv M) : GB (M.1 93) := h.2.2.2.2.2.2.2.2.2.2.2.1
theorem Inv.n {M : Mem} (h : Inv M) : GN (M.1 11 39) (M.1 11 21) := h.2.2.2.2.2.2.2.2.2.2.2.2
/-- the same, but for what the calls scribble -/
def Eqv (M N : Mem) : Prop := N.1 12 = M.1 12 ∧ N.1 13 = M.1 13 ∧ N.1 14 = M.1 14 ∧ N.1 15 = M.1 15 ∧ N.1 16 = M.1 16 ∧ N.1 17 = M.1 17 ∧ N.1 18 = M.1 18 ∧ N.1 19 = M.1 19 ∧ N.1 20 = M.1 20 ∧ N.1 22 = M.1 22 ∧ N.1 23 = M.1 23 ∧ N.1 24 = M.1 24 ∧ N.1 25 = M.1 25 ∧ N.1 26 = M.1 26 ∧ N.1 27 = M.1 27 ∧ N.1 28 = M.1 28 ∧ N.1 29 = M.1 29 ∧ N.1 30 = M.1 30 ∧ N.1 32 = M.1 32 ∧ N.1 33 = M.1 33 ∧ N.1 34 = M.1 34 ∧ N.1 35 = M.1 35 ∧ N.1 36 = M.1 36 ∧ N.1 37 = M.1 37 ∧ N.1 38 = M.1 38 ∧ N.1 39 = M.1 39 ∧ N.1 40 = M.1 40 ∧ N.1 41 = M.1 41 ∧ N.1 42 = M.1 42 ∧ N.1 43 = M.1 43 ∧ N.1 44 = M.1 44 ∧ N.1 66 = M.1 66 ∧ N.1 67 = M.1 67 ∧ N.1 68 = M.1 68 ∧ N.1 69 = M.1 69 ∧ N.1 70 = M.1 70 ∧ N.1 71 = M.1 71 ∧ N.1 72 = M.1 72 ∧ N.1 73 = M.1 73 ∧ N.1 74 = M.1 74 ∧ N.1 75 = M.1 75 ∧ N.1 76 = M.1 76 ∧ N.1 77 = M.1 77 ∧ N.1 78 = M.1 78 ∧ N.1 79 = M.1 79 ∧ N.1 80 = M.1 80 ∧ N.1 81 = M.1 81 ∧ N.1 82 = M.1 82 ∧ N.1 83 = M.1 83 ∧ N.1 84 = M.1 84 ∧ N.1 85 = M.1 85 ∧ N.1 86 = M.1 86 ∧ N.1 87 = M.1 87 ∧ N.1 88 = M.1 88 ∧ N.1 89 = M.1 89 ∧ N.1 90 = M.1 90 ∧ N.1 91 = M.1 91 ∧ N.1 92 = M.1 92 ∧ N.1 93 = M.1 93 ∧ N.1 94 = M.1 94 ∧ N.1 95 = M.1 95 ∧ N.1 0 12 = M.1 0 12 ∧ N.1 0 13 = M.1 0 13 ∧ N.1 1 1 = M.1 1 1 ∧ N.1 1 2 = M.1 1 2 ∧ N.1 1 3 = M.1 1 3 ∧ N.1 2 3 = M.1 2 3 ∧ N.1 2 8 = M.1 2 8 ∧ N.1 3 4 = M.1 3 4 ∧ N.1 4 6 = M.1 4 6 ∧ N.1 5 3 = M.1 5 3 ∧ N.1 6 10 = M.1 6 10 ∧ N.1 7 4 = M.1 7 4 ∧ N.1 11 0 = M.1 11 0 ∧ N.1 11 2 = M.1 11 2 ∧ N.1 11 3 = M.1 11 3 ∧ N.1 11 4 = M.1 11 4 ∧ N.1 11 7 = M.1 11 7 ∧ N.1 11 12 = M.1 11 12 ∧ N.1 11 17 = M.1 11 17 ∧ N.1 11 21 = M.1 11 21 ∧ N.1 11 24 = M.1 11 24 ∧ N.1 11 25 = M.1 11 25 ∧ N.1 11 33 = M.1 11 33 ∧ N.1 11 39 = M.1 11 39
theorem Eqv.c12 {M N : Mem} (h : Eqv M N) : N.1 12 = M.1 12 := h.1
theorem Eqv.c13 {M N : Mem} (h : Eqv M N) : N.1 13 = M.1 13 := h.2.1
theorem Eqv.c14 {M N : Mem} (h : Eqv M N) : N.1 14 = M.1 14 := h.2.2.1
theorem Eqv.c15 {M N : Mem} (h : Eqv M N) : N.1 15 = M.1 15 := h.2.2.2.1
theorem Eqv.c16 {M N : Mem} (h : Eqv M N) : N.1 16 = M.1 16 := h.2.2.2.2.1
theorem Eqv.c17 {M N : Mem} (h : Eqv M N) : N.1 17 = M.1 17 := h.2.2.2.2.2.1
theorem Eqv.c18 {M N : Mem} (h : Eqv M N) : N.1 18 = M.1 18 := h.2.2.2.2.2.2.1
theorem Eqv.c19 {M N : Mem} (h : Eqv M N) : N.1 19 = M.1 19 := h.2.2.2.2.2.2.2.1
theorem Eqv.c20 {M N : Mem} (h : Eqv M N) : N.1 20 = M.1 20 := h.2.2.2.2.2.2.2.2.1
theorem Eqv.c22 {M N : Mem} (h : Eqv M N) : N.1 22 = M.1 22 := h.2.2.2.2.2.2.2.2.2.1
theorem Eqv.c23 {M N : Mem} (h : Eqv M N) : N.1 23 = M.1 23 := h.2.2.2.2.2.2.2.2.2.2.1
theorem Eqv.c24 {M N : Mem} (h : Eqv M N) : N.1 24 = M.1 24 := h.2.2.2.2.2.2.2.2.2.2.2.1
theorem Eqv.c25 {M N : Mem} (h : Eqv M N) : N.1 25 = M.1 25 := h.2.2.2.2.2.2.2.2.2.2.2.2.1
theorem Eqv.c26 {M N : Mem} (h : Eqv M N) : N.1 26 = M.1 26 := h.2.2.2.2.2.2.2.2.2.2.2.2.2.1
theorem Eqv.c27 {M N : Mem} (h : Eqv M N) : N.1 27 = M.1 27 := h.2.2.2.2.2.2.2.2.2.2.2.2.2.2.1
theorem Eqv.c28 {M N : Mem} (h : Eqv M N) : N.1 28 = M.1 28 := h.2.2.2.2.2.2.2.2.2.2.2.2.2.2.2.1
theorem Eqv.c29 {M N : Mem} (h : Eqv M N) : N.1 29 = M.1 29 := h.2.2.2.2.2.2.2.2.2.2.2.2.2.2.2.2.1
theorem Eqv.c30 {M N : Mem} (h : Eqv M N) : N.1 30 = M.1 30 := h.2.2.2.2.2.2.2.2.2.2.2.2.2.2.2.2.2.1
theorem Eqv.c32 {M N : Mem} (h : Eqv M N) : N.1 32 = M.1 32 := h.2.2.2.2.2.2.2.2.2.2.2.2.2.2.2.2.2.2.1
theorem Eqv.c33 {M N : Mem} (h : Eqv M N) : N.1 33 = M.1 33 := h.2.2.2.2.2.2.2.2.2.2.2.2.2.2.2.2.2.2.2.1
theorem Eqv.c34 {M N : Mem} (h : Eqv M N) : N.1 34 = M.1 34 := h.2.2.2.2.2.2.2.2.2.2.2.2.2.2.2.2.2.2.2.2.1
theorem Eqv.c35 {M N : Mem} (h : Eqv M N) : N.1 35 = M.1 35 := h.2.2.2.2.2.2.2.2.2.2.2.2.2.2.2.2.2.2.2.2.2.1
theorem Eqv.c36 {M N : Mem} (h : Eqv M N) : N.1 36 = M.1 36 := h.2.2.2.2.2.2.2.2.2.2.2.2.2.2.2.2.2.2.2.2.2.2.1
theorem Eqv.c37 {M N : Mem} (h : Eqv M N) : N.1 37 = M.1 37 := h.2.2.2.2.2.2.2.2.2.2.2.2.2.2.2.2.2.2.2.2.2.2.2.1
theorem Eqv.c38 {M N : Mem} (h : Eqv M N) : N.1 38 = M.1 38 := h.2.2.2.2.2.2.2.2.2.2.2.2.2.2.2.2.2.2.2.2.2.2.2.2.1
theorem Eqv.c39 {M N : Mem} (h : Eqv M N) : N.1 39 = M.1 39 := h.2.2.2.2.2.2.2.2.2.2.2.2.2.2.2.2.2.2.2.2.2.2.2.2.2.1
theorem Eqv.c40 {M N : Mem} (h : Eqv M N) : N.1 40 = M.1 40 := h.2.2.2.2.2.2.2.2.2.2.2.2.2.2.2.2.2.2.2.2.2.2.2.2.2.2.1
theorem Eqv.c41 {M N : Mem} (h : Eqv M N) : N.1 41 = M.1 41 := h.2.2.2.2.2.2.2.2.2.2.2.2.2.2.2.2.2.2.2.2.2.2.2.2.2.2.2.1
theorem Eqv.c42 {M N : Mem} (h : Eqv M N) : N.1 42 = M.1 42 := h.2.2.2.2.2.2.2.2.2.2.2.2.2.2.2.2.2.2.2.2.2.2.2.2.2.2.2.2.1
theorem Eqv.c43 {M N : Mem} (h : Eqv M N) : N.1 43 = M.1 43 := h.2.2.2.2.2.2.2.2.2.2.2.2.2.2.2.2.2.2.2.2.2.2.2.2.2.2.2.2.2.1
theorem Eqv.c44 {M N : Mem} (h : Eqv M N) : N.1 44 = M.1 44 := h.2.2.2.2.2.2.2.2.2.2.2.2.2.2.2.2.2.2.2.2.2.2.2.2.2.2.2.2.2.2.1
theorem Eqv.c66 {M N : Mem} (h : Eqv M N) : N.1 66 = M.1 66 := h.2.2.2.2.2.2.2.2.2.2.2.2.2.2.2.2.2.2.2.2.2.2.2.2.2.2.2.2.2.2.2.1
theorem Eqv.c67 {M N : Mem} (h : Eqv M N) : N.1 67 = M.1 67 := h.2.2.2.2.2.2.2.2.2.2.2.2.2.2.2.2.2.2.2.2.2.2.2.2.2.2.2.2.2.2.2.2.1
theorem Eqv.c68 {M N : Mem} (h : Eqv M N) : N.1 68 = M.1 68 := h.2.2.2.2.2.2.2.2.2.2.2.2.2.2.2.2.2.2.2.2.2.2.2.2.2.2.2.2.2.2.2.2.2.1
theorem Eqv.c69 {M N : Mem} (h : Eqv M N) : N.1 69 = M.1 69 := h.2.2.2.2.2.2.2.2.2.2.2.2.2.2.2.2.2.2.2.2.2.2.2.2.2.2.2.2.2.2.2.2.2.2.1
theorem Eqv.c70 {M N : Mem} (h : Eqv M N) : N.1 70 = M.1 70 := h.2.2.2.2.2.2.2.2.2.2.2.2.2.2.2.2.2.2.2.2.2.2.2.2.2.2.2.2.2.2.2.2.2.2.2.1
theorem Eqv.c71 {M N : Mem} (h : Eqv M N) : N.1 71 = M.1 71 := h.2.2.2.2.2.2.2.2.2.2.2.2.2.2.2.2.2.2.2.2.2.2.2.2.2.2.2.2.2.2.2.2.2.2.2.2.1
theorem Eqv.c72 {M N : Mem} (h : Eqv M N) : N.1 72 = M.1 72 := h.2.2.2.2.2.2.2.2.2.2.2.2.2.2.2.2.2.2.2.2.2.2.2.2.2.2.2.2.2.2.2.2.2.2.2.2.2.1
theorem Eqv.c73 {M N : Mem} (h : Eqv M N) : N.1 73 = M.1 73 := h.2.2.2.2.2.2.2.2.2.2.2.2.2.2.2.2.2.2.2.2.2.2.2.2.2.2.2.2.2.2.2.2.2.2.2.2.2.2.1
theorem Eqv.c74 {M N : Mem} (h : Eqv M N) : N.1 74 = M.1 74 := h.2.2.2.2.2.2.2.2.2.2.2.2.2.2.2.2.2.2.2.2.2.2.2.2.2.2.2.2.2.2.2.2.2.2.2.2.2.2.2.1
theorem Eqv.c75 {M N : Mem} (h : Eqv M N) : N.1 75 = M.1 75 := h.2.2.2.2.2.2.2.2.2.2.2.2.2.2.2.2.2.2.2.2.2.2.2.2.2.2.2.2.2.2.2.2.2.2.2.2.2.2.2.2.1
theorem Eqv.c76 {M N : Mem} (h : Eqv M N) : N.1 76 = M.1 76 := h.2.2.2.2.2.2.2.2.2.2.2.2.2.2.2.2.2.2.2.2.2.2.2.2.2.2.2.2.2.2.2.2.2.2.2.2.2.2.2.2.2.1
theorem Eqv.c77 {M N : Mem} (h : Eqv M N) : N.1 77 = M.1 77 := h.2.2.2.2.2.2.2.2.2.2.2.2.2.2.2.2.2.2.2.2.2.2.2.2.2.2.2.2.2.2.2.2.2.2.2.2.2.2.2.2.2.2.1
theorem Eqv.c78 {M N : Mem} (h : Eqv M N) : N.1 78 = M.1 78 := h.2.2.2.2.2.2.2.2.2.2.2.2.2.2.2.2.2.2.2.2.2.2.2.2.2.2.2.2.2.2.2.2.2.2.2.2.2.2.2.2.2.2.2.1
theorem Eqv.c79 {M N : Mem} (h : Eqv M N) : N.1 79 = M.1 79 := h.2.2.2.2.2.2.2.2.2.2.2.2.2.2.2.2.2.2.2.2.2.2.2.2.2.2.2.2.2.2.2.2.2.2.2.2.2.2.2.2.2.2.2.2.1
theorem Eqv.c80 {M N : Mem} (h : Eqv M N) : N.1 80 = M.1 80 := h.2.2.2.2.2.2.2.2.2.2.2.2.2.2.2.2.2.2.2.2.2.2.2.2.2.2.2.2.2.2.2.2.2.2.2.2.2.2.2.2.2.2.2.2.2.1
theorem Eqv.c81 {M N : Mem} (h : Eqv M N) : N.1 81 = M.1 81 := h.2.2.2.2.2.2.2.2.2.2.2.2.2.2.2.2.2.2.2.2.2.2.2.2.2.2.2.2.2.2.2.2.2.2.2.2.2.2.2.2.2.2.2.2.2.2.1
theorem Eqv.c82 {M N : Mem} (h : Eqv M N) : N.1 82 = M.1 82 := h.2.2.2.2.2.2.2.2.2.2.2.2.2.2.2.2.2.2.2.2.2.2.2.2.2.2.2.2.2.2.2.2.2.2.2.2.2.2.2.2.2.2.2.2.2.2.2.1
theorem Eqv.c83 {M N : Mem} (h : Eqv M N) : N.1 83 = M.1 83 := h.2.2.2.2.2.2.2.2.2.2.2.2.2.2.2.2.2.2.2.2.2.2.2.2.2.2.2.2.2.2.2.2.2.2.2.2.2.2.2.2.2.2.2.2.2.2.2.2.1
theorem Eqv.c84 {M N : Mem} (h : Eqv M N) : N.1 84 = M.1 84 := h.2.2.2.2.2.2.2.2.2.2.2.2.2.2.2.2.2.2.2.2.2.2.2.2.2.2.2.2.2.2.2.2.2.2.2.2.2.2.2.2.2.2.2.2.2.2.2.2.2.1
theorem Eqv.c85 {M N : Mem} (h : Eqv M N) : N.1 85 = M.1 85 := h.2.2.2.2.2.2.2.2.2.2.2.2.2.2.2.2.2.2.2.2.2.2.2.2.2.2.2.2.2.2.2.2.2.2.2.2.2.2.2.2.2.2.2.2.2.2.2.2.2.2.1
theorem Eqv.c86 {M N : Mem} (h : Eqv M N) : N.1 86 = M.1 86 := h.2.2.2.2.2.2.2.2.2.2.2.2.2.2.2.2.2.2.2.2.2.2.2.2.2.2.2.2.2.2.2.2.2.2.2.2.2.2.2.2.2.2.2.2.2.2.2.2.2.2.2.1
theorem Eqv.c87 {M N : Mem} (h : Eqv M N) : N.1 87 = M.1 87 := h.2.2.2.2.2.2.2.2.2.2.2.2.2.2.2.2.2.2.2.2.2.2.2.2.2.2.2.2.2.2.2.2.2.2.2.2.2.2.2.2.2.2.2.2.2.2.2.2.2.2.2.2.1
theorem Eqv.c88 {M N : Mem} (h : Eqv M N) : N.1 88 = M.1 88 := h.2.2.2.2.2.2.2.2.2.2.2.2.2.2.2.2.2.2.2.2.2.2.2.2.2.2.2.2.2.2.2.2.2.2.2.2.2.2.2.2.2.2.2.2.2.2.2.2.2.2.2.2.2.1
theorem Eqv.c89 {M N : Mem} (h : Eqv M N) : N.1 89 = M.1 89 := h.2.2.2.2.2.2.2.2.2.2.2.2.2.2.2.2.2.2.2.2.2.2.2.2.2.2.2.2.2.2.2.2.2.2.2.2.2.2.2.2.2.2.2.2.2.2.2.2.2.2.2.2.2.2.1
theorem Eqv.c90 {M N : Mem} (h : Eqv M N) : N.1 90 = M.1 90 := h.2.2.2.2.2.2.2.2.2.2.2.2.2.2.2.2.2.2.2.2.2.2.2.2.2.2.2.2.2.2.2.2.2.2.2.2.2.2.2.2.2.2.2.2.2.2.2.2.2.2.2.2.2.2.2.1
theorem Eqv.c91 {M N : Mem} (h : Eqv M N) : N.1 91 = M.1 91 := h.2.2.2.2.2.2.2.2.2.2.2.2.2.2.2.2.2.2.2.2.2.2.2.2.2.2.2.2.2.2.2.2.2.2.2.2.2.2.2.2.2.2.2.2.2.2.2.2.2.2.2.2.2.2.2.2.1
theorem Eqv.c92 {M N : Mem} (h : Eqv M N) : N.1 92 = M.1 92 := h.2.2.2.2.2.2.2.2.2.2.2.2.2.2.2.2.2.2.2.2.2.2.2.2.2.2.2.2.2.2.2.2.2.2.2.2.2.2.2.2.2.2.2.2.2.2.2.2.2.2.2.2.2.2.2.2.2.1
theorem Eqv.c93 {M N : Mem} (h : Eqv M N) : N.1 93 = M.1 93 := h.2.2.2.2.2.2.2.2.2.2.2.2.2.2.2.2.2.2.2.2.2.2.2.2.2.2.2.2.2.2.2.2.2.2.2.2.2.2.2.2.2.2.2.2.2.2.2.2.2.2.2.2.2.2.2.2.2.2.1
theorem Eqv.c94 {M N : Mem} (h : Eqv M N) : N.1 94 = M.1 94 := h.2.2.2.2.2.2.2.2.2.2.2.2.2.2.2.2.2.2.2.2.2.2.2.2.2.2.2.2.2.2.2.2.2.2.2.2.2.2.2.2.2.2.2.2.2.2.2.2.2.2.2.2.2.2.2.2.2.2.2.1
theorem Eqv.c95 {M N : Mem} (h : Eqv M N) : N.1 95 = M.1 95 := h.2.2.2.2.2.2.2.2.2.2.2.2.2.2.2.2.2.2.2.2.2.2.2.2.2.2.2.2.2.2.2.2.2.2.2.2.2.2.2.2.2.2.2.2.2.2.2.2.2.2.2.2.2.2.2.2.2.2.2.2.1
theorem Eqv.s0_12 {M N : Mem} (h : Eqv M N) : N.1 0 12 = M.1 0 12 := h.2.2.2.2.2.2.2.2.2.2.2.2.2.2.2.2.2.2.2.2.2.2.2.2.2.2.2.2.2.2.2.2.2.2.2.2.2.2.2.2.2.2.2.2.2.2.2.2.2.2.2.2.2.2.2.2.2.2.2.2.2.1
theorem Eqv.s0_13 {M N : Mem} (h : Eqv M N) : N.1 0 13 = M.1 0 13 := h.2.2.2.2.2.2.2.2.2.2.2.2.2.2.2.2.2.2.2.2.2.2.2.2.2.2.2.2.2.2.2.2.2.2.2.2.2.2.2.2.2.2.2.2.2.2.2.2.2.2.2.2.2.2.2.2.2.2.2.2.2.2.1
theorem Eqv.s1_1 {M N : Mem} (h : Eqv M N) : N.1 1 1 = M.1 1 1 := h.2.2.2.2.2.2.2.2.2.2.2.2.2.2.2.2.2.2.2.2.2.2.2.2.2.2.2.2.2.2.2.2.2.2.2.2.2.2.2.2.2.2.2.2.2.2.2.2.2.2.2.2.2.2.2.2.2.2.2.2.2.2.2.1
theorem Eqv.s1_2 {M N : Mem} (h : Eqv M N) : N.1 1 2 = M.1 1 2 := h.2.2.2.2.2.2.2.2.2.2.2.2.2.2.2.2.2.2.2.2.2.2.2.2.2.2.2.2.2.2.2.2.2.2.2.2.2.2.2.2.2.2.2.2.2.2.2.2.2.2.2.2.2.2.2.2.2.2.2.2.2.2.2.2.1
theorem Eqv.s1_3 {M N : Mem} (h : Eqv M N) : N.1 1 3 = M.1 1 3 := h.2.2.2.2.2.2.2.2.2.2.2.2.2.2.2.2.2.2.2.2.2.2.2.2.2.2.2.2.2.2.2.2.2.2.2.2.2.2.2.2.2.2.2.2.2.2.2.2.2.2.2.2.2.2.2.2.2.2.2.2.2.2.2.2.2.1
theorem Eqv.s2_3 {M N : Mem} (h : Eqv M N) : N.1 2 3 = M.1 2 3 := h.2.2.2.2.2.2.2.2.2.2.2.2.2.2.2.2.2.2.2.2.2.2.2.2.2.2.2.2.2.2.2.2.2.2.2.2.2.2.2.2.2.2.2.2.2.2.2.2.2.2.2.2.2.2.2.2.2.2.2.2.2.2.2.2.2.2.1
theorem Eqv.s2_8 {M N : Mem} (h : Eqv M N) : N.1 2 8 = M.1 2 8 := h.2.2.2.2.2.2.2.2.2.2.2.2.2.2.2.2.2.2.2.2.2.2.2.2.2.2.2.2.2.2.2.2.2.2.2.2.2.2.2.2.2.2.2.2.2.2.2.2.2.2.2.2.2.2.2.2.2.2.2.2.2.2.2.2.2.2.2.1
theorem Eqv.s3_4 {M N : Mem} (h : Eqv M N) : N.1 3 4 = M.1 3 4 := h.2.2.2.2.2.2.2.2.2.2.2.2.2.2.2.2.2.2.2.2.2.2.2.2.2.2.2.2.2.2.2.2.2.2.2.2.2.2.2.2.2.2.2.2.2.2.2.2.2.2.2.2.2.2.2.2.2.2.2.2.2.2.2.2.2.2.2.2.1
theorem Eqv.s4_6 {M N : Mem} (h : Eqv M N) : N.1 4 6 = M.1 4 6 := h.2.2.2.2.2.2.2.2.2.2.2.2.2.2.2.2.2.2.2.2.2.2.2.2.2.2.2.2.2.2.2.2.2.2.2.2.2.2.2.2.2.2.2.2.2.2.2.2.2.2.2.2.2.2.2.2.2.2.2.2.2.2.2.2.2.2.2.2.2.1
theorem Eqv.s5_3 {M N : Mem} (h : Eqv M N) : N.1 5 3 = M.1 5 3 := h.2.2.2.2.2.2.2.2.2.2.2.2.2.2.2.2.2.2.2.2.2.2.2.2.2.2.2.2.2.2.2.2.2.2.2.2.2.2.2.2.2.2.2.2.2.2.2.2.2.2.2.2.2.2.2.2.2.2.2.2.2.2.2.2.2.2.2.2.2.2.1
theorem Eqv.s6_10 {M N : Mem} (h : Eqv M N) : N.1 6 10 = M.1 6 10 := h.2.2.2.2.2.2.2.2.2.2.2.2.2.2.2.2.2.2.2.2.2.2.2.2.2.2.2.2.2.2.2.2.2.2.2.2.2.2.2.2.2.2.2.2.2.2.2.2.2.2.2.2.2.2.2.2.2.2.2.2.2.2.2.2.2.2.2.2.2.2.2.1
theorem Eqv.s7_4 {M N : Mem} (h : Eqv M N) : N.1 7 4 = M.1 7 4 := h.2.2.2.2.2.2.2.2.2.2.2.2.2.2.2.2.2.2.2.2.2.2.2.2.2.2.2.2.2.2.2.2.2.2.2.2.2.2.2.2.2.2.2.2.2.2.2.2.2.2.2.2.2.2.2.2.2.2.2.2.2.2.2.2.2.2.2.2.2.2.2.2.1
theorem Eqv.s11_0 {M N : Mem} (h : Eqv M N) : N.1 11 0 = M.1 11 0 := h.2.2.2.2.2.2.2.2.2.2.2.2.2.2.2.2.2.2.2.2.2.2.2.2.2.2.2.2.2.2.2.2.2.2.2.2.2.2.2.2.2.2.2.2.2.2.2.2.2.2.2.2.2.2.2.2.2.2.2.2.2.2.2.2.2.2.2.2.2.2.2.2.2.1
theorem Eqv.s11_2 {M N : Mem} (h : Eqv M N) : N.1 11 2 = M.1 11 2 := h.2.2.2.2.2.2.2.2.2.2.2.2.2.2.2.2.2.2.2.2.2.2.2.2.2.2.2.2.2.2.2.2.2.2.2.2.2.2.2.2.2.2.2.2.2.2.2.2.2.2.2.2.2.2.2.2.2.2.2.2.2.2.2.2.2.2.2.2.2.2.2.2.2.2.1
theorem Eqv.s11_3 {M N : Mem} (h : Eqv M N) : N.1 11 3 = M.1 11 3 := h.2.2.2.2.2.2.2.2.2.2.2.2.2.2.2.2.2.2.2.2.2.2.2.2.2.2.2.2.2.2.2.2.2.2.2.2.2.2.2.2.2.2.2.2.2.2.2.2.2.2.2.2.2.2.2.2.2.2.2.2.2.2.2.2.2.2.2.2.2.2.2.2.2.2.2.1
theorem Eqv.s11_4 {M N : Mem} (h : Eqv M N) : N.1 11 4 = M.1 11 4 := h.2.2.2.2.2.2.2.2.2.2.2.2.2.2.2.2.2.2.2.2.2.2.2.2.2.2.2.2.2.2.2.2.2.2.2.2.2.2.2.2.2.2.2.2.2.2.2.2.2.2.2.2.2.2.2.2.2.2.2.2.2.2.2.2.2.2.2.2.2.2.2.2.2.2.2.2.1
theorem Eqv.s11_7 {M N : Mem} (h : Eqv M N) : N.1 11 7 = M.1 11 7 := h.2.2.2.2.2.2.2.2.2.2.2.2.2.2.2.2.2.2.2.2.2.2.2.2.2.2.2.2.2.2.2.2.2.2.2.2.2.2.2.2.2.2.2.2.2.2.2.2.2.2.2.2.2.2.2.2.2.2.2.2.2.2.2.2.2.2.2.2.2.2.2.2.2.2.2.2.2.1
theorem Eqv.s11_12 {M N : Mem} (h : Eqv M N) : N.1 11 12 = M.1 11 12 := h.2.2.2.2.2.2.2.2.2.2.2.2.2.2.2.2.2.2.2.2.2.2.2.2.2.2.2.2.2.2.2.2.2.2.2.2.2.2.2.2.2.2.2.2.2.2.2.2.2.2.2.2.2.2.2.2.2.2.2.2.2.2.2.2.2.2.2.2.2.2.2.2.2.2.2.2.2.2.1
theorem Eqv.s11_17 {M N : Mem} (h : Eqv M N) : N.1 11 17 = M.1 11 17 := h.2.2.2.2.2.2.2.2.2.2.2.2.2.2.2.2.2.2.2.2.2.2.2.2.2.2.2.2.2.2.2.2.2.2.2.2.2.2.2.2.2.2.2.2.2.2.2.2.2.2.2.2.2.2.2.2.2.2.2.2.2.2.2.2.2.2.2.2.2.2.2.2.2.2.2.2.2.2.2.1
theorem Eqv.s11_21 {M N : Mem} (h : Eqv M N) : N.1 11 21 = M.1 11 21 := h.2.2.2.2.2.2.2.2.2.2.2.2.2.2.2.2.2.2.2.2.2.2.2.2.2.2.2.2.2.2.2.2.2.2.2.2.2.2.2.2.2.2.2.2.2.2.2.2.2.2.2.2.2.2.2.2.2.2.2.2.2.2.2.2.2.2.2.2.2.2.2.2.2.2.2.2.2.2.2.2.1
theorem Eqv.s11_24 {M N : Mem} (h : Eqv M N) : N.1 11 24 = M.1 11 24 := h.2.2.2.2.2.2.2.2.2.2.2.2.2.2.2.2.2.2.2.2.2.2.2.2.2.2.2.2.2.2.2.2.2.2.2.2.2.2.2.2.2.2.2.2.2.2.2.2.2.2.2.2.2.2.2.2.2.2.2.2.2.2.2.2.2.2.2.2.2.2.2.2.2.2.2.2.2.2.2.2.2.1
theorem Eqv.s11_25 {M N : Mem} (h : Eqv M N) : N.1 11 25 = M.1 11 25 := h.2.2.2.2.2.2.2.2.2.2.2.2.2.2.2.2.2.2.2.2.2.2.2.2.2.2.2.2.2.2.2.2.2.2.2.2.2.2.2.2.2.2.2.2.2.2.2.2.2.2.2.2.2.2.2.2.2.2.2.2.2.2.2.2.2.2.2.2.2.2.2.2.2.2.2.2.2.2.2.2.2.2.1
theorem Eqv.s11_33 {M N : Mem} (h : Eqv M N) : N.1 11 33 = M.1 11 33 := h.2.2.2.2.2.2.2.2.2.2.2.2.2.2.2.2.2.2.2.2.2.2.2.2.2.2.2.2.2.2.2.2.2.2.2.2.2.2.2.2.2.2.2.2.2.2.2.2.2.2.2.2.2.2.2.2.2.2.2.2.2.2.2.2.2.2.2.2.2.2.2.2.2.2.2.2.2.2.2.2.2.2.2.1
theorem Eqv.s11_39 {M N : Mem} (h : Eqv M N) : N.1 11 39 = M.1 11 39 := h.2.2.2.2.2.2.2.2.2.2.2.2.2.2.2.2.2.2.2.2.2.2.2.2.2.2.2.2.2.2.2.2.2.2.2.2.2.2.2.2.2.2.2.2.2.2.2.2.2.2.2.2.2.2.2.2.2.2.2.2.2.2.2.2.2.2.2.2.2.2.2.2.2.2.2.2.2.2.2.2.2.2.2.2
theorem Eqv.rf (M : Mem) : Eqv M M := ⟨rfl, rfl, rfl, rfl, rfl, rfl, rfl, rfl, rfl, rfl, rfl, rfl, rfl, rfl, rfl, rfl, rfl, rfl, rfl, rfl, rfl, rfl, rfl, rfl, rfl, rfl, rfl, rfl, rfl, rfl, rfl, rfl, rfl, rfl, rfl, rfl, rfl, rfl, rfl, rfl, rfl, rfl, rfl, rfl, rfl, rfl, rfl, rfl, rfl, rfl, rfl, rfl, rfl, rfl, rfl, rfl, rfl, rfl, rfl, rfl, rfl, rfl, rfl, rfl, rfl, rfl, rfl, rfl, rfl, rfl, rfl, rfl, rfl, rfl, rfl, rfl, rfl, rfl, rfl, rfl, rfl, rfl, rfl, rfl, rfl⟩
theorem Eqv.tr {M N O : Mem} (h : Eqv M N) (k : Eqv N O) : Eqv M O := ⟨k.c12.trans h.c12, k.c13.trans h.c13, k.c14.trans h.c14, k.c15.trans h.c15, k.c16.trans h.c16, k.c17.trans h.c17, k.c18.trans h.c18, k.c19.trans h.c19, k.c20.trans h.c20, k.c22.trans h.c22, k.c23.trans h.c23, k.c24.trans h.c24, k.c25.trans h.c25, k.c26.trans h.c26, k.c27.trans h.c27, k.c28.trans h.c28, k.c29.trans h.c29, k.c30.trans h.c30, k.c32.trans h.c32, k.c33.trans h.c33, k.c34.trans h.c34, k.c35.trans h.c35, k.c36.trans h.c36, k.c37.trans h.c37, k.c38.trans h.c38, k.c39.trans h.c39, k.c40.trans h.c40, k.c41.trans h.c41, k.c42.trans h.c42, k.c43.trans h.c43, k.c44.trans h.c44, k.c66.trans h.c66, k.c67.trans h.c67, k.c68.trans h.c68, k.c69.trans h.c69, k.c70.trans h.c70, k.c71.trans h.c71, k.c72.trans h.c72, k.c73.trans h.c73, k.c74.trans h.c74, k.c75.trans h.c75, k.c76.trans h.c76, k.c77.trans h.c77, k.c78.trans h.c78, k.c79.trans h.c79, k.c80.trans h.c80, k.c81.trans h.c81, k.c82.trans h.c82, k.c83.trans h.c83, k.c84.trans h.c84, k.c85.trans h.c85, k.c86.trans h.c86, k.c87.trans h.c87, k.c88.trans h.c88, k.c89.trans h.c89, k.c90.trans h.c90, k.c91.trans h.c91, k.c92.trans h.c92, k.c93.trans h.c93, k.c94.trans h.c94, k.c95.trans h.c95, k.s0_12.trans h.s0_12, k.s0_13.trans h.s0_13, k.s1_1.trans h.s1_1, k.s1_2.trans h.s1_2, k.s1_3.trans h.s1_3, k.s2_3.trans h.s2_3, k.s2_8.trans h.s2_8, k.s3_4.trans h.s3_4, k.s4_6.trans h.s4_6, k.s5_3.trans h.s5_3, k.s6_10.trans h.s6_10, k.s7_4.trans h.s7_4, k.s11_0.trans h.s11_0, k.s11_2.trans h.s11_2, k.s11_3.trans h.s11_3, k.s11_4.trans h.s11_4, k.s11_7.trans h.s11_7, k.s11_12.trans h.s11_12, k.s11_17.trans h.s11_17, k.s11_21.trans h.s11_21, k.s11_24.trans h.s11_24, k.s11_25.trans h.s11_25, k.s11_33.trans h.s11_33, k.s11_39.trans h.s11_39⟩
theorem Inv.go {M N : Mem} (e : Eqv M N) (h : Inv M) : Inv N := by
  unfold Inv REL at h ⊢
  rw [e.c12, e.c13, e.c14, e.c15, e.c16, e.c17, e.c18, e.c19, e.c20, e.c22, e.c23, e.c24, e.c25, e.c26, e.c27, e.c28, e.c29, e.c30, e.c32, e.c33, e.c34, e.c35, e.c36, e.c37, e.c38, e.c39, e.c40, e.c41, e.c42, e.c43, e.c44, e.c66, e.c67, e.c68, e.c69, e.c70, e.c71, e.c72, e.c73, e.c74, e.c75, e.c76, e.c77, e.c78, e.c79, e.c80, e.c81, e.c82, e.c83, e.c84, e.c85, e.c86, e.c87, e.c88, e.c89, e.c90, e.c91, e.c92, e.c93, e.c94, e.c95, e.s0_12, e.s0_13, e.s1_1, e.s1_2, e.s1_3, e.s2_3, e.s2_8, e.s3_4, e.s4_6, e.s5_3, e.s6_10, e.s7_4, e.s11_0, e.s11_2, e.s11_3, e.s11_4, e.s11_7, e.s11_12, e.s11_17, e.s11_21, e.s11_24, e.s11_25, e.s11_33, e.s11_39]
  exact h
theorem sm_0 : ∀ n : Nat, sm (fun _ => 0) n = 0
  | 0 => rfl
  | n + 1 => by
    show sm (fun _ => 0) n + 0 = 0
    rw [sm_0 n]
    rfl
theorem fl_at (v : Int32) : ∀ (n j : Nat), fl (fun _ => 0) v n j = if j < n then v else 0
  | 0, j => rfl
  | n + 1, j => by
    show (if j = n then v else fl (fun _ => 0) v n j) = _
    by_cases h : j = n
    · rw [if_pos h, if_pos (by omega)]
    · rw [if_neg h, fl_at v n j]
      by_cases h2 : j < n
      · rw [if_pos h2, if_pos (by omega)]
      · rw [if_neg h2, if_neg (by omega)]
theorem inv_0 : Inv M0 := by
  refine ⟨⟨rfl, rfl, rfl, rfl, rfl, rfl, rfl, rfl, rfl, rfl, rfl, rfl, rfl, rfl, rfl, rfl, rfl, rfl, rfl, rfl, rfl, rfl, rfl, rfl, rfl, rfl, rfl, rfl, rfl, rfl, rfl, rfl, rfl, rfl, rfl, rfl, rfl, rfl⟩, ?_, ?_, ?_, ?_, ?_, ?_, ?_, ?_, ?_, ?_, ?_, ?_⟩
  · exact ⟨isN_0 _, fun j => isN_0 _, ⟨10, by decide, rfl⟩, ⟨5, by decide, rfl⟩⟩
  · exact ⟨0, by decide, rfl, fun j h => absurd h (Nat.not_lt_zero j), fun r h => ⟨rfl, rfl⟩⟩
  · exact ⟨0, by decide, rfl, fun j h => absurd h (Nat.not_lt_zero j)⟩
  · exact ⟨0, by decide, rfl, fun j h => ⟨0, by decide, rfl, fun _ => rfl, fun k h => absurd h (Nat.not_lt_zero k)⟩⟩
  · exact ⟨0, by decide, rfl, fun j h => absurd h (Nat.not_lt_zero j)⟩
  · intro j hj i hi
    refine ⟨Or.inl rfl, fun _ => rfl, fun _ => ⟨rfl, rfl⟩⟩
  · intro i hi
    rcases (show i = 0 ∨ i = 1 ∨ i = 2 ∨ i = 3 ∨ i = 4 by omega) with rfl | rfl | rfl | rfl | rfl
    · exact ⟨10, by decide, by decide⟩
    · exact ⟨4, by decide, by decide⟩
    · exact ⟨50, by decide, by decide⟩
    · exact ⟨3, by decide, by decide⟩
    · exact ⟨80, by decide, by decide⟩
  · exact ⟨isN_0 _, fun j => isN_0 _⟩
  · exact ⟨0, by decide, rfl, fun j h => absurd h (Nat.not_lt_zero j)⟩
  · exact ⟨0, by decide, rfl, fun j h => absurd h (Nat.not_lt_zero j), fun c h => rfl⟩
  · intro j
    show fl (fun _ => 0) (-1) 64 j = -1 ∨ isN 500 (fl (fun _ => 0) (-1) 64 j)
    rw [fl_at]
    by_cases h : j < 64
    · rw [if_pos h]; exact Or.inl rfl
    · rw [if_neg h]; exact Or.inr (isN_0 _)
  · exact ⟨isN_0 _, isN_0 _⟩
