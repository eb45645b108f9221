/-! SET AND MOVE -/
def tmf (co : Nat → Int32) (e : Int32) : Nat → Nat → Int32
  | 0, _ => 0
  | d + 1, a => if co a = e then 1 else tmf co e d (a + 1)
theorem tmf_s (co : Nat → Int32) (e : Int32) (d a : Nat) : tmf co e (d + 1) a = if co a = e then 1 else tmf co e d (a + 1) := rfl
theorem tm_cn (co : Nat → Int32) (e : Int32) : ∀ (d a : Nat), tmf co e d a = if cnE co e (a + d) = cnE co e a then 0 else 1
  | 0, a => by rw [Nat.add_zero, if_pos rfl]; rfl
  | d + 1, a => by
    have hm : cnE co e (a + 1) ≤ cnE co e (a + 1 + d) := smN_up (by omega)
    have ih := tm_cn co e d (a + 1)
    rw [show a + (d + 1) = a + 1 + d by omega, tmf_s]
    have hs := cnE_s co e a
    by_cases q : co a = e
    · rw [if_pos q] at hs
      rw [if_pos q, if_neg (by omega)]
    · rw [if_neg q] at hs
      have hs : cnE co e (a + 1) = cnE co e a := hs
      rw [if_neg q, ih, hs]
theorem l_isTimed {N : Mem} {nc : Nat} (hnc : nc ≤ 60) (ec : N.1 2 8 = nI nc) (e : Int32) : ∀ (d a k : Nat), a + d = nc → f_X8_isTimed_L2 e (k + (d + 1)) (nI a) N (fun w1 M2 => some ((0 : Int32), M2)) = some (tmf (N.1 17) e d a, N)
  | 0, a, k, hh => by
    have : a = nc := by omega
    subst this
    rw [show k + (0 + 1) = k + 1 from rfl, f_X8_isTimed_L2, ec, if_pos (nI_le (Nat.le_refl a) (by omega))]
    rfl
  | d + 1, a, k, hh => by
    rw [show k + (d + 1 + 1) = (k + (d + 1)) + 1 from rfl, f_X8_isTimed_L2, ec, if_neg (nI_ge (show a < nc by omega) (by omega)), gV_nI (show a < 60 by omega) (by decide), nI_clamp (show a < 2 ^ 31 by omega), nI_1, l_isTimed hnc ec e d (a + 1) k (by omega), tmf_s]
    by_cases q : N.1 17 a = e
    · rw [if_pos q, if_pos q]
    · rw [if_neg q, if_neg q]
theorem e_isTimed {M : Mem} (hI : Inv M) {nc : Nat} (hnc : nc ≤ 60) (ec : M.1 11 7 = nI nc) (e : Int32) : f_X8_isTimed e M = some (if cnE (M.1 69) e nc = 0 then 0 else 1, M) := by
  obtain ⟨k, hk⟩ := FU_pos (d := nc) (by omega)
  have l := l_isTimed hnc (hI.rel.cycles.trans ec) e nc 0 k (by omega)
  rw [← hk, show nI 0 = 0 from rfl, tm_cn, hI.rel.cOf, Nat.zero_add, show cnE (M.1 69) e 0 = 0 from rfl] at l
  unfold f_X8_isTimed
  rw [l]
theorem l_can1 {M : Mem} (hI : Inv M) {nc j p : Nat} (hnc : nc ≤ 60) (ec : M.1 11 7 = nI nc) (hj : j < 8) (hp : p ≤ 6) (ep : M.1 73 j = nI p) (ht : ∀ i, i < p → 0 < cnE (M.1 69) (M.1 74 (6 * j + i)) nc) : ∀ (d a k : Nat), a + d = p → f_X4_canMake_L2 (nI j) (k + (d + 1)) (nI a) M (fun w9 M10 => some ((1 : Int32), M10)) = some (1, M)
  | 0, a, k, hh => by
    have : a = p := by omega
    subst this
    rw [show k + (0 + 1) = k + 1 from rfl, f_X4_canMake_L2, e_partMany hj (by rw [hI.rel.parts]; exact ep), bE_s, if_pos (nI_le (Nat.le_refl a) (by omega))]
  | d + 1, a, k, hh => by
    have hpos := ht a (by omega)
    rw [show k + (d + 1 + 1) = (k + (d + 1)) + 1 from rfl, f_X4_canMake_L2, e_partMany hj (by rw [hI.rel.parts]; exact ep), bE_s, if_neg (nI_ge (show a < p by omega) (by omega)), e_isMarked M hj (show a < 6 by omega) (mk_01 hI hj (by omega)), bE_s, e_elementAt M hj (show a < 6 by omega), bE_s, hI.rel.pOf, e_isTimed hI hnc ec, bE_s, if_neg (show ¬ cnE (M.1 69) (M.1 74 (6 * j + a)) nc = 0 by omega), if_neg one_ne0, nI_1, l_can1 hI hnc ec hj hp ep ht d (a + 1) k (by omega), ite_self]
theorem l_can0 {M : Mem} (hI : Inv M) {nc j p : Nat} (hnc : nc ≤ 60) (ec : M.1 11 7 = nI nc) (hj : j < 8) (hp : p ≤ 6) (ep : M.1 73 j = nI p) (hm : ∀ i, i < p → M.1 25 (6 * j + i) = 1) {t : Nat} (ht : t < p) (h0 : cnE (M.1 69) (M.1 74 (6 * j + t)) nc = 0) : ∀ (d a k : Nat), a + d = p → a ≤ t → f_X4_canMake_L2 (nI j) (k + (d + 1)) (nI a) M (fun w9 M10 => some ((1 : Int32), M10)) = some (0, M)
  | 0, a, k, hh, hat => by omega
  | d + 1, a, k, hh, hat => by
    rw [show k + (d + 1 + 1) = (k + (d + 1)) + 1 from rfl, f_X4_canMake_L2, e_partMany hj (by rw [hI.rel.parts]; exact ep), bE_s, if_neg (nI_ge (show a < p by omega) (by omega)), e_isMarked M hj (show a < 6 by omega) (mk_01 hI hj (by omega)), bE_s, hm a (by omega), if_neg one_ne0, e_elementAt M hj (show a < 6 by omega), bE_s, hI.rel.pOf, e_isTimed hI hnc ec, bE_s, nI_1]
    by_cases q : cnE (M.1 69) (M.1 74 (6 * j + a)) nc = 0
    · rw [if_pos q, if_pos rfl]
    · rw [if_neg q, if_neg one_ne0]
      have : a ≠ t := fun e => q (by rw [e]; exact h0)
      exact l_can0 hI hnc ec hj hp ep hm ht h0 d (a + 1) k (by omega) (by omega)
theorem l_set1 {N : Mem} {nc j p : Nat} (hnc : nc ≤ 60) (ec : N.1 11 7 = nI nc) (hj : j < 8) (hp : p ≤ 6) (ep : N.1 73 j = nI p) (ht : ∀ i, i < p → 0 < cnE (N.1 69) (N.1 74 (6 * j + i)) nc) (K : Int32 → Mem → Option Ret) : ∀ (d a k : Nat), a + d = p → f_X11_set_L39 (nI j) (k + (d + 1)) (nI a) N K = K (nI p) N
  | 0, a, k, hh => by
    have : a = p := by omega
    subst this
    rw [show k + (0 + 1) = k + 1 from rfl, f_X11_set_L39, gV_nI hj (by decide), nI_clamp (by omega), ep, if_pos (nI_le (Nat.le_refl a) (by omega))]
  | d + 1, a, k, hh => by
    have hpos := ht a (by omega)
    have hcl := cnE_le (N.1 69) (N.1 74 (6 * j + a)) nc
    rw [show k + (d + 1 + 1) = (k + (d + 1)) + 1 from rfl, f_X11_set_L39, gV_nI hj (by decide), nI_clamp (by omega), ep, if_neg (nI_ge (show a < p by omega) (by omega)), m6, gV_nI (show 6 * j + a < 48 by omega) (by decide), nI_clamp (show 6 * j + a < 2 ^ 31 by omega), e_cycM hnc ec, bE_s, if_neg (nI_ne0 hpos (by omega)), nI_1]
    exact l_set1 hnc ec hj hp ep ht K d (a + 1) k (by omega)
theorem l_set0 {N : Mem} {nc j p : Nat} (hnc : nc ≤ 60) (ec : N.1 11 7 = nI nc) (hj : j < 8) (hp : p ≤ 6) (ep : N.1 73 j = nI p) {t : Nat} (ht : t < p) (h0 : cnE (N.1 69) (N.1 74 (6 * j + t)) nc = 0) (K : Int32 → Mem → Option Ret) : ∀ (d a k : Nat), a + d = p → a ≤ t → f_X11_set_L39 (nI j) (k + (d + 1)) (nI a) N K = some (fdv 2, fdM N 2)
  | 0, a, k, hh, hat => by omega
  | d + 1, a, k, hh, hat => by
    have hcl := cnE_le (N.1 69) (N.1 74 (6 * j + a)) nc
    rw [show k + (d + 1 + 1) = (k + (d + 1)) + 1 from rfl, f_X11_set_L39, gV_nI hj (by decide), nI_clamp (by omega), ep, if_neg (nI_ge (show a < p by omega) (by omega)), m6, gV_nI (show 6 * j + a < 48 by omega) (by decide), nI_clamp (show 6 * j + a < 2 ^ 31 by omega), e_cycM hnc ec, bE_s, nI_1]
    by_cases q : cnE (N.1 69) (N.1 74 (6 * j + a)) nc = 0
    · rw [q, if_pos (show nI 0 = 0 from rfl), e_fdM2, bE_s]
    · rw [if_neg (nI_ne0 (by omega) (by omega))]
      have : a ≠ t := fun e => q (by rw [e]; exact h0)
      exact l_set0 hnc ec hj hp ep ht h0 K d (a + 1) k (by omega) (by omega)
theorem cn_timed {co : Nat → Int32} {e : Int32} : ∀ {n : Nat}, 0 < cnE co e n → ∃ c, c < n ∧ co c = e
  | 0, h => absurd h (Nat.lt_irrefl 0)
  | n + 1, h => by
    rw [cnE_s] at h
    by_cases q : co n = e
    · exact ⟨n, by omega, q⟩
    · rw [if_neg q] at h
      obtain ⟨c, c1, c2⟩ := cn_timed (n := n) h
      exact ⟨c, by omega, c2⟩
theorem timed_cn {co : Nat → Int32} {e : Int32} {n c : Nat} (hc : c < n) (h : co c = e) : 0 < cnE co e n := by
  have h1 : cnE co e (c + 1) ≤ cnE co e n := smN_up (by omega)
  rw [cnE_s, if_pos h] at h1
  omega
theorem inv_make {M N N2 : Mem} (hI : Inv M) {nf nc nr j p : Nat} {frm : Int32} (hnf : nf ≤ 20) (ef : M.1 11 4 = nI nf) (hnc : nc ≤ 60) (ec : M.1 11 7 = nI nc) (hnr : nr < 40) (er : M.1 11 17 = nI nr) (hj : j < 8) (hp : p ≤ 6) (hp0 : 0 < p) (ep : M.1 73 j = nI p) (hx : ∀ i, i < p → isN 11 (M.1 74 (6 * j + i)) ∧ 0 < cnE (M.1 69) (M.1 74 (6 * j + i)) nc) (hfrm : isN 552 frm)
    (a1 : ∀ q, q ≠ 2 → q ≠ 4 → q ≠ 21 → ¬ (25 ≤ q ∧ q ≤ 29) → N.1 q = M.1 q) (a2 : ∀ s, s < 10 → N.1 2 s = M.1 2 s) (a3 : N.1 4 6 = nI (nr + 1)) (a4 : N.1 25 = clr (M.1 25) (6 * j) p) (a5 : N.1 26 = upd (M.1 26) nr (nI j)) (a6 : N.1 27 = upd (M.1 27) nr frm) (a7 : N.1 28 = upd (M.1 28) nr (smv M nf nc nr j p)) (a8 : N.1 29 = wrr (M.1 29) (wnv M nf nc nr j) (6 * nr) p)
    (b1 : ∀ q, q ≠ 11 → ¬ (76 ≤ q ∧ q ≤ 79) → q ≠ 96 → N2.1 q = N.1 q) (b2 : ∀ s, s ≠ 17 → N2.1 11 s = M.1 11 s) (b3 : N2.1 11 17 = nI (nr + 1)) (b4 : N2.1 76 = clr (M.1 76) (6 * j) p) (b5 : N2.1 77 = upd (M.1 77) nr (nI j)) (b6 : N2.1 78 = upd (M.1 78) nr frm) (b7 : N2.1 79 = wrr (M.1 79) (wnv M nf nc nr j) (6 * nr) p) : Inv N2 := by
  obtain ⟨k, k1, k2, hRR⟩ := hI.r
  have : k = nr := (nI_eq (by omega) (by omega)).mp (k2.symm.trans er)
  subst this
  obtain ⟨nj, hnj, ej, hJ⟩ := hI.j
  have hc : ∀ q, q ≠ 2 → q ≠ 4 → q ≠ 11 → q ≠ 21 → q ≠ 96 → ¬ (25 ≤ q ∧ q ≤ 29) → ¬ (76 ≤ q ∧ q ≤ 79) → N2.1 q = M.1 q := fun q h1 h2 h3 h4 h5 h6 h7 => (b1 q h3 h7 h5).trans (a1 q h1 h2 h4 h6)
  have c2 : ∀ s, s < 10 → N2.1 2 s = M.1 2 s := fun s hs => by rw [b1 2 (by decide) (by decide) (by decide)]; exact a2 s hs
  have c46 : N2.1 4 6 = nI (k + 1) := by rw [b1 4 (by decide) (by decide) (by decide)]; exact a3
  have c25 : N2.1 25 = clr (M.1 25) (6 * j) p := (b1 25 (by decide) (by decide) (by decide)).trans a4
  have c26 : N2.1 26 = upd (M.1 77) k (nI j) := by rw [b1 26 (by decide) (by decide) (by decide), a5, hI.rel.rOf]
  have c27 : N2.1 27 = upd (M.1 78) k frm := by rw [b1 27 (by decide) (by decide) (by decide), a6, hI.rel.rFrom]
  have c28 : N2.1 28 = upd (M.1 28) k (smv M nf nc k j p) := (b1 28 (by decide) (by decide) (by decide)).trans a7
  have c29 : N2.1 29 = wrr (M.1 79) (wnv M nf nc k j) (6 * k) p := by rw [b1 29 (by decide) (by decide) (by decide), a8, hI.rel.worth]
  have epj : (M.1 73 j).toNatClampNeg = p := by rw [ep, nI_clamp (by omega)]
  have hw8 : ∀ i, i < p → isN 8000 (wnv M nf nc k j i) := by
    intro i hi
    unfold wnv
    by_cases q : LAv M k j = -1 ∨ ¬ M.1 76 (6 * j + i) = 0
    · rw [if_pos q]; exact sdv_N hI.ww hnf ef hnc ec _
    · rw [if_neg q]
      rcases la_or M k j with hL | ⟨r, hr, hL, h77⟩
      · exact absurd (Or.inl hL) q
      · rw [hL, nI_clamp (by omega)]
        exact (hRR r hr).2.1 i (by omega) (fun j2 hj2 e2 => by
          have : j2 = j := (nI_eq (by omega) (by omega)).mp (e2.symm.trans h77)
          rw [this, epj]; exact hi)
  have hGR : GR (M.1 11 7) (M.1 69) (M.1 73) (M.1 74) (M.1 75) (nI (k + 1)) (upd (M.1 77) k (nI j)) (upd (M.1 78) k frm) (wrr (M.1 79) (wnv M nf nc k j) (6 * k) p) (upd (M.1 28) k (smv M nf nc k j p)) := by
    refine ⟨k + 1, by omega, rfl, fun r hr => ?_⟩
    by_cases e : r = k
    · rw [e, upd_s, upd_s, upd_s]
      refine ⟨hfrm, fun i hi hh => ?_, j, hj, rfl, ?_, ?_, ?_⟩
      · have := hh j hj rfl
        rw [epj] at this
        rw [wrr_at _ _ _ _ this]
        exact hw8 i this
      · rw [epj]
        exact sm_congr (fun i hi => by rw [wrr_at _ _ _ _ hi])
      · rw [epj]
        intro i hi
        obtain ⟨c, c1, c2⟩ := cn_timed (hx i hi).2
        exact ⟨c, by rw [ec, nI_clamp (by omega)]; exact c1, c2⟩
      · rw [epj]; exact hp0
    · obtain ⟨r1, r2, j', r3, r4, r5, r6, r7⟩ := hRR r (by omega)
      obtain ⟨p', q1, q2, -⟩ := hJ j' r3
      have epj' : (M.1 73 j').toNatClampNeg = p' := by rw [q2, nI_clamp (by omega)]
      rw [upd_n e, upd_n e, upd_n e]
      refine ⟨r1, fun i hi hh => ?_, j', r3, r4, ?_, r6, r7⟩
      · rw [wrr_lo _ _ _ (by omega)]; exact r2 i hi hh
      · rw [r5, epj']
        exact sm_congr (fun i hi => by rw [wrr_lo _ _ _ (by omega)])
  have hGM : GM (nI (k + 1)) (upd (M.1 77) k (nI j)) (M.1 73) (clr (M.1 76) (6 * j) p) (clr (M.1 25) (6 * j) p) := by
    intro j' hj' i hi
    obtain ⟨d1, d2, d3⟩ := hI.m j' hj' i hi
    by_cases e : j' = j
    · rw [e] at d1 d2 d3 ⊢
      have hR : hasR (nI (k + 1)) (upd (M.1 77) k (nI j)) (nI j) := ⟨k, by rw [nI_clamp (by omega)]; omega, upd_s _ _ _⟩
      rw [clr_eq, clr_eq]
      by_cases q : i < p
      · rw [if_pos q, if_pos q]; exact ⟨Or.inl rfl, fun _ => rfl, fun w => absurd hR w⟩
      · rw [if_neg q, if_neg q]
        refine ⟨d1, fun _ => ?_, fun w => absurd hR w⟩
        by_cases w : hasR (M.1 11 17) (M.1 77) (nI j)
        · exact d2 w
        · obtain ⟨w1, w2⟩ := d3 w
          rw [w1, w2, epj, if_neg q]
    · rw [clr_out _ _ _ (by omega), clr_out _ _ _ (by omega)]
      have hiff : hasR (nI (k + 1)) (upd (M.1 77) k (nI j)) (nI j') ↔ hasR (M.1 11 17) (M.1 77) (nI j') := by
        constructor
        · rintro ⟨r, r1, r2⟩
          rw [nI_clamp (by omega)] at r1
          by_cases e2 : r = k
          · rw [e2, upd_s] at r2
            exact absurd ((nI_eq (by omega) (by omega)).mp r2).symm e
          · rw [upd_n e2] at r2
            exact ⟨r, by rw [er, nI_clamp (by omega)]; omega, r2⟩
        · rintro ⟨r, r1, r2⟩
          rw [er, nI_clamp (by omega)] at r1
          exact ⟨r, by rw [nI_clamp (by omega)]; omega, by rw [upd_n (by omega)]; exact r2⟩
      exact ⟨d1, fun w => d2 (hiff.mp w), fun w => d3 (fun u => w (hiff.mpr u))⟩
  have hGW : GW (nI (k + 1)) (upd (M.1 77) k (nI j)) (upd (M.1 78) k frm) (M.1 11 25) (M.1 82) (M.1 83) (M.1 84) (M.1 85) (M.1 86) (M.1 87) (M.1 88) := by
    obtain ⟨n, n1, n2, n3⟩ := hI.w
    refine ⟨n, n1, n2, fun i hi => ?_⟩
    obtain ⟨w1, w2, w3, w4, w5, w6, w7, r, r1, r2, r3⟩ := n3 i hi
    rw [er, nI_clamp (by omega)] at r1
    exact ⟨w1, w2, w3, w4, w5, w6, w7, r, by rw [nI_clamp (by omega)]; omega, by rw [upd_n (by omega)]; exact r2, by rw [upd_n (by omega)]; exact r3⟩
  unfold Inv REL
  simp only [hc 0 (by decide) (by decide) (by decide) (by decide) (by decide) (by decide) (by decide), hc 1 (by decide) (by decide) (by decide) (by decide) (by decide) (by decide) (by decide), hc 3 (by decide) (by decide) (by decide) (by decide) (by decide) (by decide) (by decide), hc 5 (by decide) (by decide) (by decide) (by decide) (by decide) (by decide) (by decide), hc 6 (by decide) (by decide) (by decide) (by decide) (by decide) (by decide) (by decide), hc 7 (by decide) (by decide) (by decide) (by decide) (by decide) (by decide) (by decide), hc 12 (by decide) (by decide) (by decide) (by decide) (by decide) (by decide) (by decide), hc 13 (by decide) (by decide) (by decide) (by decide) (by decide) (by decide) (by decide), hc 14 (by decide) (by decide) (by decide) (by decide) (by decide) (by decide) (by decide), hc 15 (by decide) (by decide) (by decide) (by decide) (by decide) (by decide) (by decide), hc 16 (by decide) (by decide) (by decide) (by decide) (by decide) (by decide) (by decide), hc 17 (by decide) (by decide) (by decide) (by decide) (by decide) (by decide) (by decide), hc 18 (by decide) (by decide) (by decide) (by decide) (by decide) (by decide) (by decide), hc 19 (by decide) (by decide) (by decide) (by decide) (by decide) (by decide) (by decide), hc 20 (by decide) (by decide) (by decide) (by decide) (by decide) (by decide) (by decide), hc 22 (by decide) (by decide) (by decide) (by decide) (by decide) (by decide) (by decide), hc 23 (by decide) (by decide) (by decide) (by decide) (by decide) (by decide) (by decide), hc 24 (by decide) (by decide) (by decide) (by decide) (by decide) (by decide) (by decide), hc 30 (by decide) (by decide) (by decide) (by decide) (by decide) (by decide) (by decide), hc 32 (by decide) (by decide) (by decide) (by decide) (by decide) (by decide) (by decide), hc 33 (by decide) (by decide) (by decide) (by decide) (by decide) (by decide) (by decide), hc 34 (by decide) (by decide) (by decide) (by decide) (by decide) (by decide) (by decide), hc 35 (by decide) (by decide) (by decide) (by decide) (by decide) (by decide) (by decide), hc 36 (by decide) (by decide) (by decide) (by decide) (by decide) (by decide) (by decide), hc 37 (by decide) (by decide) (by decide) (by decide) (by decide) (by decide) (by decide), hc 38 (by decide) (by decide) (by decide) (by decide) (by decide) (by decide) (by decide), hc 39 (by decide) (by decide) (by decide) (by decide) (by decide) (by decide) (by decide), hc 40 (by decide) (by decide) (by decide) (by decide) (by decide) (by decide) (by decide), hc 41 (by decide) (by decide) (by decide) (by decide) (by decide) (by decide) (by decide), hc 42 (by decide) (by decide) (by decide) (by decide) (by decide) (by decide) (by decide), hc 43 (by decide) (by decide) (by decide) (by decide) (by decide) (by decide) (by decide), hc 44 (by decide) (by decide) (by decide) (by decide) (by decide) (by decide) (by decide), hc 66 (by decide) (by decide) (by decide) (by decide) (by decide) (by decide) (by decide), hc 67 (by decide) (by decide) (by decide) (by decide) (by decide) (by decide) (by decide), hc 68 (by decide) (by decide) (by decide) (by decide) (by decide) (by decide) (by decide), hc 69 (by decide) (by decide) (by decide) (by decide) (by decide) (by decide) (by decide), hc 70 (by decide) (by decide) (by decide) (by decide) (by decide) (by decide) (by decide), hc 71 (by decide) (by decide) (by decide) (by decide) (by decide) (by decide) (by decide), hc 72 (by decide) (by decide) (by decide) (by decide) (by decide) (by decide) (by decide), hc 73 (by decide) (by decide) (by decide) (by decide) (by decide) (by decide) (by decide), hc 74 (by decide) (by decide) (by decide) (by decide) (by decide) (by decide) (by decide), hc 75 (by decide) (by decide) (by decide) (by decide) (by decide) (by decide) (by decide), hc 80 (by decide) (by decide) (by decide) (by decide) (by decide) (by decide) (by decide), hc 81 (by decide) (by decide) (by decide) (by decide) (by decide) (by decide) (by decide), hc 82 (by decide) (by decide) (by decide) (by decide) (by decide) (by decide) (by decide), hc 83 (by decide) (by decide) (by decide) (by decide) (by decide) (by decide) (by decide), hc 84 (by decide) (by decide) (by decide) (by decide) (by decide) (by decide) (by decide), hc 85 (by decide) (by decide) (by decide) (by decide) (by decide) (by decide) (by decide), hc 86 (by decide) (by decide) (by decide) (by decide) (by decide) (by decide) (by decide), hc 87 (by decide) (by decide) (by decide) (by decide) (by decide) (by decide) (by decide), hc 88 (by decide) (by decide) (by decide) (by decide) (by decide) (by decide) (by decide), hc 89 (by decide) (by decide) (by decide) (by decide) (by decide) (by decide) (by decide), hc 90 (by decide) (by decide) (by decide) (by decide) (by decide) (by decide) (by decide), hc 91 (by decide) (by decide) (by decide) (by decide) (by decide) (by decide) (by decide), hc 92 (by decide) (by decide) (by decide) (by decide) (by decide) (by decide) (by decide), hc 93 (by decide) (by decide) (by decide) (by decide) (by decide) (by decide) (by decide), hc 94 (by decide) (by decide) (by decide) (by decide) (by decide) (by decide) (by decide), hc 95 (by decide) (by decide) (by decide) (by decide) (by decide) (by decide) (by decide), c2 3 (by decide), c2 8 (by decide), c46, c25, c26, c27, c28, c29, b3, b4, b5, b6, b7, b2 0 (by decide), b2 2 (by decide), b2 3 (by decide), b2 4 (by decide), b2 7 (by decide), b2 12 (by decide), b2 21 (by decide), b2 24 (by decide), b2 25 (by decide), b2 33 (by decide), b2 39 (by decide), true_and]
  exact ⟨⟨hI.rel.many, hI.rel.base, hI.rel.more, hI.rel.kinds, hI.rel.films, hI.rel.cycles, hI.rel.cOf, hI.rel.cBy, hI.rel.cPace, hI.rel.cTime, hI.rel.jobs, hI.rel.parts, hI.rel.pOf, hI.rel.often, hI.rel.taped, hI.rel.rules, hI.rel.tape, hI.rel.rows, hI.rel.wWeek, hI.rel.wWorker, hI.rel.wJob, hI.rel.wGood, hI.rel.wSpoilt, hI.rel.wMin, hI.rel.wWat, hI.rel.began, hI.rel.waits, hI.rel.aWeek, hI.rel.aWorker, hI.rel.aMin, hI.rel.nums, hI.rel.num, hI.rel.week, hI.rel.found⟩, hI.e, hI.f, hI.c, hI.j, hGR, hGM, hI.u, hI.t, hGW, hI.a, hI.b, hI.n⟩
theorem run_make {M : Mem} (hI : Inv M) {nf nc nr j p : Nat} {frm : Int32} (hnf : nf ≤ 20) (ef : M.1 11 4 = nI nf) (hnc : nc ≤ 60) (ec : M.1 11 7 = nI nc) (hnr : nr < 40) (er : M.1 11 17 = nI nr) (hj : j < 8) (hp : p ≤ 6) (hp0 : 0 < p) (ep : M.1 73 j = nI p) (hx : ∀ i, i < p → isN 11 (M.1 74 (6 * j + i)) ∧ 0 < cnE (M.1 69) (M.1 74 (6 * j + i)) nc) (hfrm : isN 552 frm) : ∃ (r : Int32) (N N2 : Mem), f_X4_make (nI j) frm M = some (r, N) ∧ (∀ q, q ≠ 2 → q ≠ 4 → q ≠ 21 → ¬ (25 ≤ q ∧ q ≤ 29) → N.1 q = M.1 q) ∧ N.1 28 = upd (M.1 28) nr r ∧ f_X11_make (nI j) frm (LAv M nr j) N = some (r, N2) ∧ Inv N2 := by
  obtain ⟨N, n0, a1, a2, a3, a4, a5, a6, a7, a8⟩ := e_makeC hI hnf ef hnc ec hnr er hj hp ep (fun i hi => (hx i hi).1) frm
  have hw : Wc M N := ⟨fun q hq => a1 q (by unfold wq at hq; omega) (by unfold wq at hq; omega) (by unfold wq at hq; omega) (by unfold wq at hq; omega), a2 8 (by decide)⟩
  obtain ⟨N2, m0, b1, b2, b3, b4, b5, b6, b7⟩ := e_makeM hI hnf ef hnc ec hnr er hj hp ep hx frm hw (fun q h1 h2 => a1 q (by omega) (by omega) (by omega) (by omega))
  exact ⟨smv M nf nc nr j p, N, N2, n0, a1, a7, m0, inv_make hI hnf ef hnc ec hnr er hj hp hp0 ep hx hfrm a1 a2 a3 a4 a5 a6 a7 a8 b1 b2 b3 b4 b5 b6 b7⟩
theorem full_40 {nr : Nat} (h : nr ≤ 40) : (if nI nr < 40 then (0 : Int32) else 1) = if nr = 40 then 1 else 0 := by
  by_cases q : nr = 40
  · rw [if_pos q, q, if_neg (show ¬ nI 40 < 40 by decide)]
  · rw [if_neg q, if_pos (show nI nr < 40 from nI_lt (b := 40) (by omega) (by decide))]
theorem st_set {M : Mem} (hI : Inv M) (v1 : Int32) : ∃ (r : Int32) (M1 M2 : Mem), f_X10_set v1 M = some (r, M1) ∧ f_X11_set v1 M1 = some (r, M2) ∧ Inv M2 := by
  obtain ⟨nf, hnf, ef, -⟩ := hI.f
  obtain ⟨nc, hnc, ec, -⟩ := hI.c
  obtain ⟨nj, hnj, ej, hJ⟩ := hI.j
  obtain ⟨nr, hnr, er, hRR⟩ := hI.r
  by_cases h1 : hs v1 (M.1 11 12) = 0
  · exact ⟨fdv 1, fdC M 1, fdM (fdC M 1) 1, by simp only [f_X10_set, e_X10_isWithin, e_X11_isIn, e_X1_isKind, e_X10_isRater, e_X10_isPace, e_X10_isWeek, e_X10_isWorker, e_X10_isCause, e_X11_isPace, e_X11_isWeek, e_X11_isWorker, e_X11_isElement, e_X11_isJob, bE_s, bI, bM, jn, one_ne0, e_fdC1, e_fdM1, e_fdC2, e_fdM2, e_fdC3, e_fdM3, e_fdC4, e_fdM4, e_fdC5, e_fdM5, e_X2_has hI, h1, if_true, if_false], by simp only [f_X11_set, e_X10_isWithin, e_X11_isIn, e_X1_isKind, e_X10_isRater, e_X10_isPace, e_X10_isWeek, e_X10_isWorker, e_X10_isCause, e_X11_isPace, e_X11_isWeek, e_X11_isWorker, e_X11_isElement, e_X11_isJob, bE_s, bI, bM, jn, one_ne0, e_fdC1, e_fdM1, e_fdC2, e_fdM2, e_fdC3, e_fdM3, e_fdC4, e_fdM4, e_fdC5, e_fdM5, h1, fdC_at (show (11 : Nat) ≠ 12 by decide), if_true, if_false], inv_fd hI 1⟩
  have h1' := h1
  rw [ej] at h1'
  obtain ⟨j, hj, ev1⟩ := hs_nat (by omega) h1'
  subst ev1
  obtain ⟨p, hp6, ep, hz, hq⟩ := hJ j (by omega)
  have epc : M.1 22 j = nI p := by rw [hI.rel.parts]; exact ep
  have hj8 : j < 8 := by omega
  have hlt : f_X4_latestOf (nI j) M = some (LAv M nr j, M) := e_X4_latestOf hI hnr er (nI j)
  have hltM : ∀ N : Mem, N.1 11 = M.1 11 → N.1 77 = M.1 77 → f_X11_latestOf (nI j) N = some (LAv M nr j, N) := fun N e11 e77 => by
    rw [e_X11_latestOf hnr (by rw [e11]; exact er), e77]
    rfl
  rcases la_or M nr j with hL | ⟨r, hr, hL, h77⟩
  case inr =>
    refine ⟨fdv 3, fdC M 3, fdM (fdC M 3) 3, ?_, ?_, inv_fd hI 3⟩
    · unfold f_X10_set
      rw [e_X2_has hI, bE_s, if_neg h1, hlt, bE_s, hL, if_neg (nI_ne_m1 (by omega)), e_fdC3, bE_s]
    · unfold f_X11_set
      rw [e_X11_isJob, bE_s, if_neg (show ¬ hs (nI j) ((fdC M 3).1 11 12) = 0 from h1), hltM (fdC M 3) rfl rfl, bE_s, hL, if_pos (nI_pos' (by omega)), e_fdM3, bE_s]
  by_cases p0 : p = 0
  · refine ⟨fdv 3, fdC M 3, fdM (fdC M 3) 3, ?_, ?_, inv_fd hI 3⟩
    · unfold f_X10_set
      rw [e_X2_has hI, bE_s, if_neg h1, hlt, bE_s, hL, if_pos rfl, e_partMany hj8 epc, bE_s, p0, if_pos (show nI 0 = 0 from rfl), e_fdC3, bE_s]
    · unfold f_X11_set
      rw [e_X11_isJob, bE_s, if_neg (show ¬ hs (nI j) ((fdC M 3).1 11 12) = 0 from h1), hltM (fdC M 3) rfl rfl, bE_s, hL, if_neg m1_nge, gV_nI hj8 (by decide), nI_clamp (by omega), show (fdC M 3).1 73 j = nI p from ep, p0, if_pos (show nI 0 = 0 from rfl), e_fdM3, bE_s]
  have hpn : ¬ nI p = 0 := nI_ne0 (by omega) (by omega)
  obtain ⟨k, hk⟩ := FU_pos (d := p) (by omega)
  have hnoR : ¬ hasR (M.1 11 17) (M.1 77) (nI j) := by
    rintro ⟨r, r1, r2⟩
    rw [er, nI_clamp (by omega)] at r1
    exact lst_some (by omega) r1 (pL_i.mpr r2) hL
  have hmk : ∀ i, i < p → M.1 25 (6 * j + i) = 1 := fun i hi => by
    rw [((hI.m j hj8 i (by omega)).2.2 hnoR).2, ep, nI_clamp (by omega), if_pos hi]
  by_cases hT : ∀ i, i < p → 0 < cnE (M.1 69) (M.1 74 (6 * j + i)) nc
  case neg =>
    obtain ⟨t, ht, h0⟩ : ∃ t, t < p ∧ cnE (M.1 69) (M.1 74 (6 * j + t)) nc = 0 := Classical.byContradiction (fun w => hT (fun i hi => Nat.pos_of_ne_zero (fun e => w ⟨i, hi, e⟩)))
    have hcan := l_can0 hI hnc ec hj8 hp6 ep hmk ht h0 p 0 k (by omega) (Nat.zero_le t)
    have hset := fun K => l_set0 (N := fdC M 2) hnc ec hj8 hp6 ep ht h0 K p 0 k (by omega) (Nat.zero_le t)
    rw [← hk, show nI 0 = 0 from rfl] at hcan hset
    refine ⟨fdv 2, fdC M 2, fdM (fdC M 2) 2, ?_, ?_, inv_fd hI 2⟩
    · unfold f_X10_set
      rw [e_X2_has hI, bE_s, if_neg h1, hlt, bE_s, hL, if_pos rfl, e_partMany hj8 epc, bE_s, if_neg hpn]
      unfold f_X10_newRate f_X4_canMake
      rw [hcan, bE_s, if_pos rfl, e_fdC2, bE_s, bE_s]
    · unfold f_X11_set
      rw [e_X11_isJob, bE_s, if_neg (show ¬ hs (nI j) ((fdC M 2).1 11 12) = 0 from h1), hltM (fdC M 2) rfl rfl, bE_s, hL, if_neg m1_nge, gV_nI hj8 (by decide), nI_clamp (by omega), show (fdC M 2).1 73 j = nI p from ep, if_neg hpn, hset]
  have hcan := l_can1 hI hnc ec hj8 hp6 ep hT p 0 k (by omega)
  rw [← hk, show nI 0 = 0 from rfl] at hcan
  by_cases q40 : nr = 40
  · have hset := fun K => l_set1 (N := fdC M 4) hnc ec hj8 hp6 ep hT K p 0 k (by omega)
    rw [← hk, show nI 0 = 0 from rfl] at hset
    refine ⟨fdv 4, fdC M 4, fdM (fdC M 4) 4, ?_, ?_, inv_fd hI 4⟩
    · unfold f_X10_set
      rw [e_X2_has hI, bE_s, if_neg h1, hlt, bE_s, hL, if_pos rfl, e_partMany hj8 epc, bE_s, if_neg hpn]
      unfold f_X10_newRate f_X4_canMake
      rw [hcan, bE_s, if_neg one_ne0, e_X4_isFull, bE_s, hI.rel.rates, er, full_40 hnr, if_pos q40, if_neg one_ne0, e_fdC4, bE_s, bE_s]
    · unfold f_X11_set
      rw [e_X11_isJob, bE_s, if_neg (show ¬ hs (nI j) ((fdC M 4).1 11 12) = 0 from h1), hltM (fdC M 4) rfl rfl, bE_s, hL, if_neg m1_nge, gV_nI hj8 (by decide), nI_clamp (by omega), show (fdC M 4).1 73 j = nI p from ep, if_neg hpn, hset, show (fdC M 4).1 11 17 = nI nr from er, q40, if_pos (show nI 40 = 40 from rfl), e_fdM4, bE_s]
  obtain ⟨wk, hwk, ewk⟩ := hI.n.2
  obtain ⟨r, N, N2, n1, n2, -, n3, n4⟩ := run_make hI (frm := M.1 11 21) hnf ef hnc ec (show nr < 40 by omega) er hj8 hp6 (by omega) ep (fun i hi => ⟨(hq i hi).1, hT i hi⟩) ⟨wk, by omega, ewk⟩
  have e11 : N.1 11 = M.1 11 := n2 11 (by decide) (by decide) (by decide) (by decide)
  have e73 : N.1 73 = M.1 73 := n2 73 (by decide) (by decide) (by decide) (by decide)
  have hset := fun K => l_set1 (N := N) hnc (by rw [e11]; exact ec) hj8 hp6 (by rw [e73]; exact ep) (by rw [n2 69 (by decide) (by decide) (by decide) (by decide), n2 74 (by decide) (by decide) (by decide) (by decide)]; exact hT) K p 0 k (by omega)
  rw [← hk, show nI 0 = 0 from rfl] at hset
  refine ⟨r, N, N2, ?_, ?_, n4⟩
  · unfold f_X10_set
    rw [e_X2_has hI, bE_s, if_neg h1, hlt, bE_s, hL, if_pos rfl, e_partMany hj8 epc, bE_s, if_neg hpn]
    unfold f_X10_newRate f_X4_canMake
    rw [hcan, bE_s, if_neg one_ne0, e_X4_isFull, bE_s, hI.rel.rates, er, full_40 hnr, if_neg q40, if_pos rfl, hI.rel.week, n1, bE_s, bE_s]
  · unfold f_X11_set
    rw [e_X11_isJob, bE_s, e11, if_neg h1, hltM N e11 (n2 77 (by decide) (by decide) (by decide) (by decide)), bE_s, hL, if_neg m1_nge, gV_nI hj8 (by decide), nI_clamp (by omega), e73, ep, if_neg hpn, hset, e11, er, if_neg (show ¬ nI nr = 40 from fun e => q40 ((nI_eq (b := 40) (by omega) (by decide)).mp e))]
    rw [hL] at n3
    rw [n3, bE_s]
