/-! MAKE -/
def wrr (f w : Nat → Int32) (b : Nat) : Nat → Nat → Int32
  | 0 => f
  | a + 1 => upd (wrr f w b a) (b + a) (w a)
theorem wrr_s (f w : Nat → Int32) (b a : Nat) : wrr f w b (a + 1) = upd (wrr f w b a) (b + a) (w a) := rfl
theorem wrr_lo (f w : Nat → Int32) (b : Nat) {x : Nat} (h : x < b) : ∀ a, wrr f w b a x = f x
  | 0 => rfl
  | a + 1 => by rw [wrr_s, upd_n (by omega)]; exact wrr_lo f w b h a
theorem wrr_at (f w : Nat → Int32) (b : Nat) {i : Nat} : ∀ a, i < a → wrr f w b a (b + i) = w i
  | 0, h => absurd h (Nat.not_lt_zero i)
  | a + 1, h => by
    rw [wrr_s]
    by_cases e : i = a
    · rw [e, upd_s]
    · rw [upd_n (by omega)]; exact wrr_at f w b a (by omega)
def clr (f : Nat → Int32) (b : Nat) : Nat → Nat → Int32
  | 0 => f
  | a + 1 => upd (clr f b a) (b + a) 0
theorem clr_s (f : Nat → Int32) (b a : Nat) : clr f b (a + 1) = upd (clr f b a) (b + a) 0 := rfl
theorem clr_out (f : Nat → Int32) (b : Nat) {x : Nat} : ∀ a, x < b ∨ b + a ≤ x → clr f b a x = f x
  | 0, _ => rfl
  | a + 1, h => by rw [clr_s, upd_n (by omega)]; exact clr_out f b a (by omega)
theorem clr_at (f : Nat → Int32) (b : Nat) {i : Nat} : ∀ a, i < a → clr f b a (b + i) = 0
  | 0, h => absurd h (Nat.not_lt_zero i)
  | a + 1, h => by
    rw [clr_s]
    by_cases e : i = a
    · rw [e, upd_s]
    · rw [upd_n (by omega)]; exact clr_at f b a (by omega)
theorem clr_eq (f : Nat → Int32) (b p : Nat) (i : Nat) : clr f b p (b + i) = if i < p then 0 else f (b + i) := by
  by_cases h : i < p
  · rw [if_pos h, clr_at f b p h]
  · rw [if_neg h, clr_out f b p (by omega)]
def wnv (M : Mem) (nf nc nr j i : Nat) : Int32 := if LAv M nr j = -1 ∨ ¬ M.1 76 (6 * j + i) = 0 then sdv M nf nc (M.1 74 (6 * j + i)).toNatClampNeg else M.1 79 (6 * (LAv M nr j).toNatClampNeg + i)
def Sm (M N : Mem) : Prop := (∀ q, q ≠ 2 → q ≠ 21 → q ≠ 29 → N.1 q = M.1 q) ∧ ∀ s, s < 10 → N.1 2 s = M.1 2 s
theorem Sm.wc {M N : Mem} (h : Sm M N) : Wc M N := ⟨fun q hq => h.1 q (by unfold wq at hq; omega) (by unfold wq at hq; omega) (by unfold wq at hq; omega), h.2 8 (by decide)⟩
theorem e_partMany {N : Mem} {j p : Nat} (hj : j < 8) (ep : N.1 22 j = nI p) : f_X2_partMany (nI j) N = some (nI p, N) := by
  unfold f_X2_partMany
  rw [gV_nI hj (by decide), nI_clamp (by omega), ep]
theorem e_elementAt (N : Mem) {j a : Nat} (hj : j < 8) (ha : a < 6) : f_X2_elementAt (nI j) (nI a) N = some (N.1 23 (6 * j + a), N) := by
  unfold f_X2_elementAt
  rw [m6', gV_nI (by omega) (by decide), nI_clamp (by omega)]
theorem e_oftenAt (N : Mem) {j a : Nat} (hj : j < 8) (ha : a < 6) : f_X2_oftenAt (nI j) (nI a) N = some (N.1 24 (6 * j + a), N) := by
  unfold f_X2_oftenAt
  rw [m6', gV_nI (by omega) (by decide), nI_clamp (by omega)]
theorem e_isMarked (N : Mem) {j a : Nat} (hj : j < 8) (ha : a < 6) (h : N.1 25 (6 * j + a) = 0 ∨ N.1 25 (6 * j + a) = 1) : f_X2_isMarked (nI j) (nI a) N = some (N.1 25 (6 * j + a), N) := by
  unfold f_X2_isMarked
  rw [m6', gV_nI (by omega) (by decide), nI_clamp (by omega), gZ_01 h]
theorem e_worthOf (N : Mem) {r a : Nat} (hr : r < 40) (ha : a < 6) : f_X4_worthOf (nI r) (nI a) N = some (N.1 29 (6 * r + a), N) := by
  unfold f_X4_worthOf
  rw [m6', gV_nI (by omega) (by decide), nI_clamp (by omega)]
theorem e_studied4 (N : Mem) : f_X8_studied 4 N = some (N.1 2 13, N) := by
  unfold f_X8_studied
  rw [if_neg (show ¬ (4 : Int32) = 1 by decide), if_neg (show ¬ (4 : Int32) = 2 by decide), if_neg (show ¬ (4 : Int32) = 3 by decide), if_pos rfl]
theorem la_or (M : Mem) (nr j : Nat) : LAv M nr j = -1 ∨ ∃ r, r < nr ∧ LAv M nr j = nI r ∧ M.1 77 r = nI j := by
  rcases lst_or (pL (M.1 77) (nI j)) nr with h | ⟨r, h1, h2, h3⟩
  · exact Or.inl h
  · exact Or.inr ⟨r, h1, h2, pL_i.mp h3⟩
theorem has_la {M : Mem} {nr j r : Nat} (hnr : nr ≤ 40) (er : M.1 11 17 = nI nr) (hr : r < nr) (h : M.1 77 r = nI j) : hasR (M.1 11 17) (M.1 77) (nI j) := ⟨r, by rw [er, nI_clamp (by omega)]; exact hr, h⟩
theorem mk_01 {M : Mem} (hI : Inv M) {j i : Nat} (hj : j < 8) (hi : i < 6) : M.1 25 (6 * j + i) = 0 ∨ M.1 25 (6 * j + i) = 1 := by
  obtain ⟨b1, b2, b3⟩ := hI.m j hj i hi
  by_cases h : hasR (M.1 11 17) (M.1 77) (nI j)
  · rw [b2 h]; exact b1
  · rw [(b3 h).2]
    split
    · exact Or.inr rfl
    · exact Or.inl rfl
theorem worthC {M N : Mem} (hI : Inv M) {nf nc nr j a : Nat} (hnf : nf ≤ 20) (ef : M.1 11 4 = nI nf) (hnc : nc ≤ 60) (ec : M.1 11 7 = nI nc) (hnr : nr < 40) (er : M.1 11 17 = nI nr) (hj : j < 8) (ha : a < 6) (hx : isN 11 (M.1 74 (6 * j + a))) (hs : Sm M N) (e29 : N.1 29 = wrr (M.1 29) (wnv M nf nc nr j) (6 * nr) a) : ∃ N' : Mem, (∀ J : Int32 → Mem → Option Ret, (if LAv M nr j = (-1 : Int32) then (bE (f_X2_elementAt (nI j) (nI a) N) (fun r13 M12 => bE (f_X8_study r13 M12) (fun r15 M14 => bE (f_X8_studied (4 : Int32) M14) (fun r17 M16 => J r17 M16)))) else (bE (f_X2_isMarked (nI j) (nI a) N) (fun r19 M18 => if r19 = 0 then (bE (f_X4_worthOf (LAv M nr j) (nI a) M18) (fun r21 M20 => J r21 M20)) else (bE (f_X2_elementAt (nI j) (nI a) M18) (fun r23 M22 => bE (f_X8_study r23 M22) (fun r25 M24 => bE (f_X8_studied (4 : Int32) M24) (fun r27 M26 => J r27 M26))))))) = J (wnv M nf nc nr j a) N') ∧ Sm M N' ∧ N'.1 29 = N.1 29 := by
  obtain ⟨x, hx, ex⟩ := hx
  have hwN := hs.wc.ww hI.ww
  have efN : N.1 11 4 = nI nf := by rw [hs.wc.c11]; exact ef
  have ecN : N.1 11 7 = nI nc := by rw [hs.wc.c11]; exact ec
  have e23 : N.1 23 (6 * j + a) = nI x := by rw [hs.1 23 (by decide) (by decide) (by decide), hI.rel.pOf]; exact ex
  have e25 : N.1 25 = M.1 25 := hs.1 25 (by decide) (by decide) (by decide)
  have hel := e_elementAt N hj ha
  rw [e23] at hel
  obtain ⟨N', n1, n2, -, -, -, n6, -⟩ := e_study hwN hnf efN hnc ecN (show x < 12 by omega)
  rw [hs.wc.sdvE] at n6
  have hs' : Sm M N' := ⟨fun q h1 h2 h3 => (n2.1 q h1 h2).trans (hs.1 q h1 h2 h3), fun s h => (n2.2 s h).trans (hs.2 s h)⟩
  have h29 : N'.1 29 = N.1 29 := n2.1 29 (by decide) (by decide)
  have hcl : (M.1 74 (6 * j + a)).toNatClampNeg = x := by rw [ex, nI_clamp (by omega)]
  rcases la_or M nr j with hL | ⟨r, hr, hL, h77⟩
  · refine ⟨N', fun J => ?_, hs', h29⟩
    rw [if_pos hL, hel, bE_s, n1, bE_s, e_studied4, bE_s, n6]
    unfold wnv
    rw [if_pos (Or.inl hL), hcl]
  · have hm1 : ¬ LAv M nr j = -1 := by rw [hL]; exact nI_ne_m1 (by omega)
    have hmk := (hI.m j hj a ha).2.1 (has_la (by omega) er hr h77)
    have him := e_isMarked N hj ha (by rw [e25]; exact mk_01 hI hj ha)
    rw [e25, hmk] at him
    by_cases q : M.1 76 (6 * j + a) = 0
    · refine ⟨N, fun J => ?_, hs, rfl⟩
      rw [if_neg hm1, him, bE_s, if_pos q, hL, e_worthOf N (show r < 40 by omega) ha, bE_s, e29, wrr_lo _ _ _ (by omega), hI.rel.worth]
      unfold wnv
      rw [if_neg (fun w => w.elim hm1 (fun w => w q)), hL, nI_clamp (by omega)]
    · refine ⟨N', fun J => ?_, hs', h29⟩
      rw [if_neg hm1, him, bE_s, if_neg q, hel, bE_s, n1, bE_s, e_studied4, bE_s, n6]
      unfold wnv
      rw [if_pos (Or.inr q), hcl]
theorem l_makeC {M : Mem} (hI : Inv M) {nf nc nr j p : Nat} (hnf : nf ≤ 20) (ef : M.1 11 4 = nI nf) (hnc : nc ≤ 60) (ec : M.1 11 7 = nI nc) (hnr : nr < 40) (er : M.1 11 17 = nI nr) (hj : j < 8) (hp : p ≤ 6) (ep : M.1 73 j = nI p) (hx : ∀ i, i < p → isN 11 (M.1 74 (6 * j + i))) (frm : Int32) (d : Nat) : ∀ (a k : Nat) (N : Mem), a + d = p → Sm M N → N.1 29 = wrr (M.1 29) (wnv M nf nc nr j) (6 * nr) a → ∃ N' : Mem, (∀ K : Int32 → Int32 → Mem → Option Ret, f_X4_make_L12 (nI j) frm (LAv M nr j) (k + (d + 1)) (sm (fun i => wnv M nf nc nr j i * M.1 75 (6 * j + i)) a) (nI a) N K = K (sm (fun i => wnv M nf nc nr j i * M.1 75 (6 * j + i)) p) (nI p) N') ∧ Sm M N' ∧ N'.1 29 = wrr (M.1 29) (wnv M nf nc nr j) (6 * nr) p := by
  induction d with
  | zero =>
    intro a k N hh hs e29
    have : a = p := by omega
    subst this
    refine ⟨N, fun K => ?_, hs, e29⟩
    have epc : N.1 22 j = nI a := by rw [hs.1 22 (by decide) (by decide) (by decide), hI.rel.parts]; exact ep
    rw [show k + (0 + 1) = k + 1 from rfl, f_X4_make_L12, e_partMany hj epc, bE_s, if_pos (nI_le (Nat.le_refl a) (by omega))]
  | succ d ih =>
    intro a k N hh hs e29
    have epc : N.1 22 j = nI p := by rw [hs.1 22 (by decide) (by decide) (by decide), hI.rel.parts]; exact ep
    obtain ⟨N1, a1, a2, a3⟩ := worthC hI hnf ef hnc ec hnr er hj (show a < 6 by omega) (hx a (by omega)) hs e29
    have e46 : N1.1 4 6 = nI nr := by rw [a2.1 4 (by decide) (by decide) (by decide), hI.rel.rates]; exact er
    have e24 : N1.1 24 = M.1 75 := by rw [a2.1 24 (by decide) (by decide) (by decide), hI.rel.often]
    obtain ⟨N', n1, n2, n3⟩ := ih (a + 1) k (up2 N1 29 (6 * nr + a) (wnv M nf nc nr j a)) (by omega) ⟨fun q h1 h2 h3 => (up2_ne h3).trans (a2.1 q h1 h2 h3), fun s h => by rw [up2_ne (by decide)]; exact a2.2 s h⟩ (by rw [up2_same, wrr_s, a3, e29])
    refine ⟨N', fun K => ?_, n2, n3⟩
    have n1 := n1 K
    rw [sm_succ] at n1
    rw [show k + (d + 1 + 1) = (k + (d + 1)) + 1 from rfl, f_X4_make_L12, e_partMany hj epc, bE_s, if_neg (nI_ge (show a < p by omega) (by omega)), jn_e, a1, e46, m6', gV_nI (show 6 * nr + a < 240 by omega) (by decide), nI_clamp (show 6 * nr + a < 2 ^ 31 by omega), bM_e, e_oftenAt _ hj (show a < 6 by omega), bE_s, up2_ne (show (24 : Nat) ≠ 29 by decide), e24, bI_e, nI_1]
    exact n1
theorem l_clearC {j p : Nat} (hj : j < 8) (hp : p ≤ 6) (f : Nat → Int32) (d : Nat) : ∀ (a k : Nat) (N : Mem), a + d = p → N.1 22 j = nI p → N.1 25 = clr f (6 * j) a → ∃ N' : Mem, (∀ K : Int32 → Mem → Option Ret, f_X2_clearMarks_L2 (nI j) (k + (d + 1)) (nI a) N K = K (nI p) N') ∧ (∀ q, q ≠ 25 → N'.1 q = N.1 q) ∧ N'.1 25 = clr f (6 * j) p := by
  induction d with
  | zero =>
    intro a k N hh epc e25
    have : a = p := by omega
    subst this
    refine ⟨N, fun K => ?_, fun _ _ => rfl, e25⟩
    rw [show k + (0 + 1) = k + 1 from rfl, f_X2_clearMarks_L2, gV_nI hj (by decide), nI_clamp (by omega), epc, if_pos (nI_le (Nat.le_refl a) (by omega))]
  | succ d ih =>
    intro a k N hh epc e25
    obtain ⟨N', n1, n2, n3⟩ := ih (a + 1) k (up2 N 25 (6 * j + a) 0) (by omega) (by rw [up2_ne (by decide)]; exact epc) (by rw [up2_same, clr_s, e25])
    refine ⟨N', fun K => ?_, fun q hq => (n2 q hq).trans (up2_ne hq), n3⟩
    rw [show k + (d + 1 + 1) = (k + (d + 1)) + 1 from rfl, f_X2_clearMarks_L2, gV_nI hj (by decide), nI_clamp (by omega), epc, if_neg (nI_ge (show a < p by omega) (by omega)), m6', gV_nI (show 6 * j + a < 48 by omega) (by decide), nI_clamp (show 6 * j + a < 2 ^ 31 by omega), bM_e, and_0, nI_1]
    exact n1 K
def smv (M : Mem) (nf nc nr j p : Nat) : Int32 := sm (fun i => wnv M nf nc nr j i * M.1 75 (6 * j + i)) p
theorem e_makeC {M : Mem} (hI : Inv M) {nf nc nr j p : Nat} (hnf : nf ≤ 20) (ef : M.1 11 4 = nI nf) (hnc : nc ≤ 60) (ec : M.1 11 7 = nI nc) (hnr : nr < 40) (er : M.1 11 17 = nI nr) (hj : j < 8) (hp : p ≤ 6) (ep : M.1 73 j = nI p) (hx : ∀ i, i < p → isN 11 (M.1 74 (6 * j + i))) (frm : Int32) : ∃ N : Mem, f_X4_make (nI j) frm M = some (smv M nf nc nr j p, N) ∧ (∀ q, q ≠ 2 → q ≠ 4 → q ≠ 21 → ¬ (25 ≤ q ∧ q ≤ 29) → N.1 q = M.1 q) ∧ (∀ s, s < 10 → N.1 2 s = M.1 2 s) ∧ N.1 4 6 = nI (nr + 1) ∧ N.1 25 = clr (M.1 25) (6 * j) p ∧ N.1 26 = upd (M.1 26) nr (nI j) ∧ N.1 27 = upd (M.1 27) nr frm ∧ N.1 28 = upd (M.1 28) nr (smv M nf nc nr j p) ∧ N.1 29 = wrr (M.1 29) (wnv M nf nc nr j) (6 * nr) p := by
  obtain ⟨k, hk⟩ := FU_pos (d := p) (by omega)
  obtain ⟨N1, a1, a2, a3⟩ := l_makeC hI hnf ef hnc ec hnr er hj hp ep hx frm p 0 k M (by omega) ⟨fun _ _ _ _ => rfl, fun _ _ => rfl⟩ rfl
  rw [← hk, show sm (fun i => wnv M nf nc nr j i * M.1 75 (6 * j + i)) 0 = 0 from rfl, show nI 0 = 0 from rfl] at a1
  obtain ⟨N2, b1, b2, b3⟩ := l_clearC hj hp (M.1 25) p 0 k N1 (by omega) (by rw [a2.1 22 (by decide) (by decide) (by decide), hI.rel.parts]; exact ep) (by rw [a2.1 25 (by decide) (by decide) (by decide)]; rfl)
  rw [← hk, show nI 0 = 0 from rfl] at b1
  have hcl : f_X2_clearMarks (nI j) N1 = some (0, N2) := by
    unfold f_X2_clearMarks
    rw [b1]
  have e46 : N2.1 4 6 = nI nr := by rw [b2 4 (by decide), a2.1 4 (by decide) (by decide) (by decide), hI.rel.rates]; exact er
  have g1 : ∀ z : Option Ret, gV (nI nr) 40 z = z := fun z => gV_nI hnr (by decide)
  have hlt : f_X4_latestOf (nI j) M = some (LAv M nr j, M) := e_X4_latestOf hI (by omega) er (nI j)
  refine ⟨up2 (up2 (up2 (up2 N2 26 nr (nI j)) 27 nr frm) 28 nr (smv M nf nc nr j p)) 4 6 (nI (nr + 1)), ?_, fun q h1 h2 h3 h4 => ?_, fun s hs => ?_, ?_, ?_, ?_, ?_, ?_, ?_⟩
  · unfold f_X4_make
    rw [hlt, bE_s, a1, hcl, bE_s, e46, g1, nI_clamp (show nr < 2 ^ 31 by omega), bM_e, up2_ne (show (4 : Nat) ≠ 26 by decide), e46, g1, nI_clamp (show nr < 2 ^ 31 by omega), bM_e, up2_ne (show (4 : Nat) ≠ 27 by decide), up2_ne (show (4 : Nat) ≠ 26 by decide), e46, g1, nI_clamp (show nr < 2 ^ 31 by omega), bM_e, bM_e, up2_ne (show (4 : Nat) ≠ 28 by decide), up2_ne (show (4 : Nat) ≠ 27 by decide), up2_ne (show (4 : Nat) ≠ 26 by decide), e46, nI_1]
    rfl
  · rw [up2_ne h2, up2_ne (by omega), up2_ne (by omega), up2_ne (by omega), b2 q (by omega), a2.1 q h1 h3 (by omega)]
  · rw [up2_ne (by decide), up2_ne (by decide), up2_ne (by decide), up2_ne (by decide), b2 2 (by decide)]; exact a2.2 s hs
  · rw [up2_same, upd_s]
  · rw [up2_ne (by decide), up2_ne (by decide), up2_ne (by decide), up2_ne (by decide), b3]
  · rw [up2_ne (by decide), up2_ne (by decide), up2_ne (by decide), up2_same, b2 26 (by decide), a2.1 26 (by decide) (by decide) (by decide)]
  · rw [up2_ne (by decide), up2_ne (by decide), up2_same, up2_ne (by decide), b2 27 (by decide), a2.1 27 (by decide) (by decide) (by decide)]
  · rw [up2_ne (by decide), up2_same, up2_ne (by decide), up2_ne (by decide), b2 28 (by decide), a2.1 28 (by decide) (by decide) (by decide)]
  · rw [up2_ne (by decide), up2_ne (by decide), up2_ne (by decide), up2_ne (by decide), b2 29 (by decide), a3]
theorem la_neg {M : Mem} {nr j : Nat} (hnr : nr ≤ 40) : LAv M nr j < 0 ↔ LAv M nr j = -1 := lst_neg (by omega)
theorem l_makeM {M : Mem} (hI : Inv M) {nf nc nr j p : Nat} (hnf : nf ≤ 20) (ef : M.1 11 4 = nI nf) (hnc : nc ≤ 60) (ec : M.1 11 7 = nI nc) (hnr : nr < 40) (er : M.1 11 17 = nI nr) (hj : j < 8) (hp : p ≤ 6) (ep : M.1 73 j = nI p) (hx : ∀ i, i < p → isN 11 (M.1 74 (6 * j + i)) ∧ 0 < cnE (M.1 69) (M.1 74 (6 * j + i)) nc) (frm : Int32) (d : Nat) : ∀ (a k : Nat) (N : Mem), a + d = p → Wc M N → N.1 73 = M.1 73 → N.1 74 = M.1 74 → N.1 76 = clr (M.1 76) (6 * j) a → N.1 79 = wrr (M.1 79) (wnv M nf nc nr j) (6 * nr) a → ∃ N' : Mem, (∀ K : Int32 → Mem → Option Ret, f_X11_make_L23 (nI j) frm (LAv M nr j) (k + (d + 1)) (nI a) N K = K (nI p) N') ∧ (∀ q, q ≠ 76 → q ≠ 79 → q ≠ 96 → N'.1 q = N.1 q) ∧ N'.1 76 = clr (M.1 76) (6 * j) p ∧ N'.1 79 = wrr (M.1 79) (wnv M nf nc nr j) (6 * nr) p := by
  induction d with
  | zero =>
    intro a k N hh hs e73 e74 e76 e79
    have : a = p := by omega
    subst this
    refine ⟨N, fun K => ?_, fun _ _ _ _ => rfl, e76, e79⟩
    rw [show k + (0 + 1) = k + 1 from rfl, f_X11_make_L23, gV_nI hj (by decide), nI_clamp (by omega), e73, ep, if_pos (nI_le (Nat.le_refl a) (by omega))]
  | succ d ih =>
    intro a k N hh hs e73 e74 e76 e79
    obtain ⟨⟨x, hx1, ex⟩, hcn⟩ := hx a (by omega)
    have efN : N.1 11 4 = nI nf := by rw [hs.c11]; exact ef
    have ecN : N.1 11 7 = nI nc := by rw [hs.c11]; exact ec
    have erN : N.1 11 17 = nI nr := by rw [hs.c11]; exact er
    have e76a : N.1 76 (6 * j + a) = M.1 76 (6 * j + a) := by rw [e76, clr_out _ _ _ (by omega)]
    rw [ex] at hcn
    obtain ⟨Ns, s1, s2⟩ := e_standardOf (hs.ww hI.ww) hnf efN hnc ecN (show x < 12 by omega) (by rw [hs.hi (q := 69) (by decide) (by decide)]; exact hcn)
    rw [hs.sdvE] at s1
    have hcl : (M.1 74 (6 * j + a)).toNatClampNeg = x := by rw [ex, nI_clamp (by omega)]
    have g1 : ∀ z : Option Ret, gV (nI (6 * j + a)) 48 z = z := fun z => gV_nI (by omega) (by decide)
    have hval : ∃ N1 : Mem, (∀ q, q ≠ 96 → N1.1 q = N.1 q) ∧ ∀ J : Int32 → Mem → Option Ret, (if LAv M nr j < 0 then (gV (nI (6 * j + a)) 48 (bE (f_X11_standardOf (N.1 74 (nI (6 * j + a)).toNatClampNeg) N) (fun r10 M9 => J r10 M9))) else (gV (nI (6 * j + a)) 48 (if (N.1 76 (nI (6 * j + a)).toNatClampNeg) = 0 then (gV (((6 : Int32) * LAv M nr j) + nI a) 240 (J (N.1 79 (((6 : Int32) * LAv M nr j) + nI a).toNatClampNeg) N)) else (gV (nI (6 * j + a)) 48 (bE (f_X11_standardOf (N.1 74 (nI (6 * j + a)).toNatClampNeg) N) (fun r12 M11 => J r12 M11)))))) = J (wnv M nf nc nr j a) N1 := by
      rcases la_or M nr j with hL | ⟨r, hr, hL, h77⟩
      · refine ⟨Ns, s2, fun J => ?_⟩
        rw [if_pos ((la_neg (by omega)).mpr hL), g1, nI_clamp (show 6 * j + a < 2 ^ 31 by omega), e74, ex, s1, bE_s]
        unfold wnv
        rw [if_pos (Or.inl hL), hcl]
      · have hm1 : ¬ LAv M nr j = -1 := by rw [hL]; exact nI_ne_m1 (by omega)
        by_cases q : M.1 76 (6 * j + a) = 0
        · refine ⟨N, fun _ _ => rfl, fun J => ?_⟩
          rw [if_neg (fun w => hm1 ((la_neg (by omega)).mp w)), g1, nI_clamp (show 6 * j + a < 2 ^ 31 by omega), e76a, if_pos q, hL, m6, gV_nI (show 6 * r + a < 240 by omega) (by decide), nI_clamp (show 6 * r + a < 2 ^ 31 by omega), e79, wrr_lo _ _ _ (by omega)]
          unfold wnv
          rw [if_neg (fun w => w.elim hm1 (fun w => w q)), hL, nI_clamp (by omega)]
        · refine ⟨Ns, s2, fun J => ?_⟩
          rw [if_neg (fun w => hm1 ((la_neg (by omega)).mp w)), g1, nI_clamp (show 6 * j + a < 2 ^ 31 by omega), e76a, if_neg q, g1, e74, ex, s1, bE_s]
          unfold wnv
          rw [if_pos (Or.inr q), hcl]
    obtain ⟨N1, v1, v2⟩ := hval
    have hw1 : Wc M (up2 (up2 N1 79 (6 * nr + a) (wnv M nf nc nr j a)) 76 (6 * j + a) 0) := ⟨fun q hq => (up2_ne (by unfold wq at hq; omega)).trans ((up2_ne (by unfold wq at hq; omega)).trans ((v1 q (by unfold wq at hq; omega)).trans (hs.1 q hq))), by rw [up2_ne (by decide), up2_ne (by decide), v1 2 (by decide)]; exact hs.2⟩
    obtain ⟨N', n1, n2, n3, n4⟩ := ih (a + 1) k (up2 (up2 N1 79 (6 * nr + a) (wnv M nf nc nr j a)) 76 (6 * j + a) 0) (by omega) hw1 (by rw [up2_ne (by decide), up2_ne (by decide), v1 73 (by decide)]; exact e73) (by rw [up2_ne (by decide), up2_ne (by decide), v1 74 (by decide)]; exact e74) (by rw [up2_same, up2_ne (by decide), v1 76 (by decide), e76, clr_s]) (by rw [up2_ne (by decide), up2_same, v1 79 (by decide), e79, wrr_s])
    refine ⟨N', fun K => ?_, fun q h1 h2 h3 => (n2 q h1 h2 h3).trans ((up2_ne h1).trans ((up2_ne h2).trans (v1 q h3))), n3, n4⟩
    rw [show k + (d + 1 + 1) = (k + (d + 1)) + 1 from rfl, f_X11_make_L23, gV_nI hj (by decide), nI_clamp (by omega), e73, ep, if_neg (nI_ge (show a < p by omega) (by omega)), bI_e, m6, jn_e, v2, erN, m6, gV_nI (show 6 * nr + a < 240 by omega) (by decide), nI_clamp (show 6 * nr + a < 2 ^ 31 by omega), bM_e, g1, nI_clamp (show 6 * j + a < 2 ^ 31 by omega), bM_e, and_0, nI_1]
    exact n1 K
theorem e_makeM {M N : Mem} (hI : Inv M) {nf nc nr j p : Nat} (hnf : nf ≤ 20) (ef : M.1 11 4 = nI nf) (hnc : nc ≤ 60) (ec : M.1 11 7 = nI nc) (hnr : nr < 40) (er : M.1 11 17 = nI nr) (hj : j < 8) (hp : p ≤ 6) (ep : M.1 73 j = nI p) (hx : ∀ i, i < p → isN 11 (M.1 74 (6 * j + i)) ∧ 0 < cnE (M.1 69) (M.1 74 (6 * j + i)) nc) (frm : Int32) (hw : Wc M N) (e7 : ∀ q, 73 ≤ q → q ≤ 79 → N.1 q = M.1 q) : ∃ N' : Mem, f_X11_make (nI j) frm (LAv M nr j) N = some (smv M nf nc nr j p, N') ∧ (∀ q, q ≠ 11 → ¬ (76 ≤ q ∧ q ≤ 79) → q ≠ 96 → N'.1 q = N.1 q) ∧ (∀ s, s ≠ 17 → N'.1 11 s = M.1 11 s) ∧ N'.1 11 17 = nI (nr + 1) ∧ N'.1 76 = clr (M.1 76) (6 * j) p ∧ N'.1 77 = upd (M.1 77) nr (nI j) ∧ N'.1 78 = upd (M.1 78) nr frm ∧ N'.1 79 = wrr (M.1 79) (wnv M nf nc nr j) (6 * nr) p := by
  obtain ⟨k, hk⟩ := FU_pos (d := p) (by omega)
  have erN : N.1 11 17 = nI nr := by rw [hw.c11]; exact er
  have hw2 : Wc M (up2 (up2 N 77 nr (nI j)) 78 nr frm) := ⟨fun q hq => (up2_ne (by unfold wq at hq; omega)).trans ((up2_ne (by unfold wq at hq; omega)).trans (hw.1 q hq)), by rw [up2_ne (by decide), up2_ne (by decide)]; exact hw.2⟩
  obtain ⟨N1, a1, a2, a3, a4⟩ := l_makeM hI hnf ef hnc ec hnr er hj hp ep hx frm p 0 k (up2 (up2 N 77 nr (nI j)) 78 nr frm) (by omega) hw2 (by rw [up2_ne (by decide), up2_ne (by decide)]; exact e7 73 (by decide) (by decide)) (by rw [up2_ne (by decide), up2_ne (by decide)]; exact e7 74 (by decide) (by decide)) (by rw [up2_ne (by decide), up2_ne (by decide)]; exact e7 76 (by decide) (by decide)) (by rw [up2_ne (by decide), up2_ne (by decide)]; exact e7 79 (by decide) (by decide))
  rw [← hk, show nI 0 = 0 from rfl] at a1
  have e11 : N1.1 11 = M.1 11 := by rw [a2 11 (by decide) (by decide) (by decide), up2_ne (by decide), up2_ne (by decide)]; exact hw.c11
  have e77 : N1.1 77 = upd (M.1 77) nr (nI j) := by rw [a2 77 (by decide) (by decide) (by decide), up2_ne (by decide), up2_same, e7 77 (by decide) (by decide)]
  have e78 : N1.1 78 = upd (M.1 78) nr frm := by rw [a2 78 (by decide) (by decide) (by decide), up2_same, up2_ne (by decide), e7 78 (by decide) (by decide)]
  have e73 : N1.1 73 = M.1 73 := by rw [a2 73 (by decide) (by decide) (by decide), up2_ne (by decide), up2_ne (by decide)]; exact e7 73 (by decide) (by decide)
  have e75 : N1.1 75 = M.1 75 := by rw [a2 75 (by decide) (by decide) (by decide), up2_ne (by decide), up2_ne (by decide)]; exact e7 75 (by decide) (by decide)
  have l := fun K => l_X11_sumOf (up2 N1 11 17 (nI (nr + 1))) K (r := nr) (j := j) (p := p) hnr hj hp (by rw [up2_ne (by decide), e77, upd_s]) (by rw [up2_ne (by decide), e73]; exact ep) p 0 k (by omega)
  rw [← hk, show sm (fun i => (up2 N1 11 17 (nI (nr + 1))).1 79 (6 * nr + i) * (up2 N1 11 17 (nI (nr + 1))).1 75 (6 * j + i)) 0 = 0 from rfl, show nI 0 = 0 from rfl] at l
  have hsum : sm (fun i => (up2 N1 11 17 (nI (nr + 1))).1 79 (6 * nr + i) * (up2 N1 11 17 (nI (nr + 1))).1 75 (6 * j + i)) p = smv M nf nc nr j p := by
    unfold smv
    refine sm_congr (fun i hi => ?_)
    rw [up2_ne (show (79 : Nat) ≠ 11 by decide), up2_ne (show (75 : Nat) ≠ 11 by decide), a4, e75, wrr_at _ _ _ _ hi]
  rw [hsum] at l
  have g1 : ∀ z : Option Ret, gV (nI nr) 40 z = z := fun z => gV_nI hnr (by decide)
  refine ⟨up2 N1 11 17 (nI (nr + 1)), ?_, fun q h1 h2 h3 => ?_, fun s hs => ?_, ?_, ?_, ?_, ?_, ?_⟩
  · unfold f_X11_make
    rw [erN, g1, nI_clamp (show nr < 2 ^ 31 by omega), bM_e, up2_ne (show (11 : Nat) ≠ 77 by decide), erN, g1, nI_clamp (show nr < 2 ^ 31 by omega), bM_e, a1, e11, er, nI_1, bM_e, up2_same, upd_s, nI_pred]
    unfold f_X11_sumOf
    rw [l, bE_s]
  · rw [up2_ne h1, a2 q (by omega) (by omega) h3, up2_ne (by omega), up2_ne (by omega)]
  · rw [up2_same, upd_n hs, e11]
  · rw [up2_same, upd_s]
  · rw [up2_ne (by decide), a3]
  · rw [up2_ne (by decide), e77]
  · rw [up2_ne (by decide), e78]
  · rw [up2_ne (by decide), a4]
