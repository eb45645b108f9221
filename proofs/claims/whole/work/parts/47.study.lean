/-! STUDY: what an element's cycles come to -/
theorem jn_e {α : Type} (K : α) (f : α → Option Ret) : jn K f = f K := rfl
theorem bM_e (e : Mem) (K : Mem → Option Ret) : bM e K = K e := by cases e; rfl
theorem bm32 {x : Int} (h1 : -2147483648 ≤ x) (h2 : x < 2147483648) : x.bmod (2 ^ 32) = x := by
  apply Int.bmod_eq_of_le_mul_two <;> omega
theorem sm_film {fo fv : Nat → Int32} (v : Int32) : ∀ n : Nat, n ≤ 20 → (∀ j, j < n → -100 ≤ (fv j).toInt ∧ (fv j).toInt ≤ 100) → ∃ c : Nat, c ≤ n ∧ sm (fun j => if fo j = v then 1 else 0) n = nI c ∧ -(100 * (c : Int)) ≤ (sm (fun j => if fo j = v then fv j else 0) n).toInt ∧ (sm (fun j => if fo j = v then fv j else 0) n).toInt ≤ 100 * (c : Int)
  | 0, _, _ => ⟨0, Nat.le_refl 0, rfl, by show -(100 * ((0 : Nat) : Int)) ≤ (0 : Int32).toInt; decide, by show (0 : Int32).toInt ≤ 100 * ((0 : Nat) : Int); decide⟩
  | n + 1, hn, h => by
    obtain ⟨c, c1, c2, c3, c4⟩ := sm_film v n (by omega) (fun j hj => h j (by omega))
    obtain ⟨d1, d2⟩ := h n (by omega)
    rw [sm_succ, sm_succ, c2]
    by_cases q : fo n = v
    · rw [if_pos q, if_pos q]
      refine ⟨c + 1, by omega, nI_1 c, ?_, ?_⟩
      · rw [Int32.toInt_add, bm32 (by omega) (by omega)]; omega
      · rw [Int32.toInt_add, bm32 (by omega) (by omega)]; omega
    · rw [if_neg q, if_neg q]
      refine ⟨c, by omega, i_a0 _, ?_, ?_⟩
      · rw [i_a0]; exact c3
      · rw [i_a0]; exact c4
theorem hab_b {s n : Int32} {c : Nat} (hc : c ≤ 20) (hn : n = nI c) (h1 : -(100 * (c : Int)) ≤ s.toInt) (h2 : s.toInt ≤ 100 * (c : Int)) : -100 ≤ (hab s n).toInt ∧ (hab s n).toInt ≤ 100 := by
  unfold hab
  by_cases q : n = 0
  · rw [if_pos q]; decide
  · rw [if_neg q, Int32.toInt_div_of_ne_right s n (by rw [hn]; exact nI_ne_m1 (by omega)), hn, nI_toInt (by omega)]
    have hc0 : 0 < c := by
      rcases Nat.eq_zero_or_pos c with e | e
      · exact absurd (by rw [hn, e]; rfl) q
      · exact e
    have h3 : (s.toInt.tdiv (c : Int)).natAbs ≤ 100 := by
      rw [Int.natAbs_tdiv]
      refine Nat.div_le_of_le_mul ?_
      rw [Int.natAbs_natCast]
      omega
    omega
theorem mx1_N {y : Int32} (h1 : -50 ≤ y.toInt) (h2 : y.toInt ≤ 250) : isN 250 (mx1 y) := by
  unfold mx1
  by_cases q : 1 ≤ y
  · rw [if_pos q]
    rw [i_le] at q
    have : (1 : Int32).toInt = 1 := rfl
    refine ⟨y.toInt.toNat, by omega, ?_⟩
    rw [i_eq, nI_toInt (by omega)]
    omega
  · rw [if_neg q]; exact ⟨1, by decide, rfl⟩
def nrv (M : Mem) (nf c : Nat) : Int32 := nrmF (M.1 67) (M.1 68) (M.1 70) (M.1 71) (M.1 72) nf c
def Ww (M : Mem) : Prop := M.1 1 2 = M.1 11 2 ∧ M.1 1 3 = M.1 11 3 ∧ M.1 14 = M.1 66 ∧ M.1 2 8 = M.1 11 7 ∧ M.1 17 = M.1 69 ∧ M.1 18 = M.1 70 ∧ M.1 19 = M.1 71 ∧ M.1 20 = M.1 72 ∧ GE (M.1 11 0) (M.1 66) (M.1 11 2) (M.1 11 3) ∧ GF (M.1 11 4) (M.1 67) (M.1 68) (M.1 15) (M.1 16) ∧ GC (M.1 11 7) (M.1 70) (M.1 71) (M.1 72)
theorem Ww.base {M : Mem} (h : Ww M) : M.1 1 2 = M.1 11 2 := h.1
theorem Ww.more {M : Mem} (h : Ww M) : M.1 1 3 = M.1 11 3 := h.2.1
theorem Ww.kinds {M : Mem} (h : Ww M) : M.1 14 = M.1 66 := h.2.2.1
theorem Ww.cycles {M : Mem} (h : Ww M) : M.1 2 8 = M.1 11 7 := h.2.2.2.1
theorem Ww.cOf {M : Mem} (h : Ww M) : M.1 17 = M.1 69 := h.2.2.2.2.1
theorem Ww.cBy {M : Mem} (h : Ww M) : M.1 18 = M.1 70 := h.2.2.2.2.2.1
theorem Ww.cPace {M : Mem} (h : Ww M) : M.1 19 = M.1 71 := h.2.2.2.2.2.2.1
theorem Ww.cTime {M : Mem} (h : Ww M) : M.1 20 = M.1 72 := h.2.2.2.2.2.2.2.1
theorem Ww.e {M : Mem} (h : Ww M) : GE (M.1 11 0) (M.1 66) (M.1 11 2) (M.1 11 3) := h.2.2.2.2.2.2.2.2.1
theorem Ww.f {M : Mem} (h : Ww M) : GF (M.1 11 4) (M.1 67) (M.1 68) (M.1 15) (M.1 16) := h.2.2.2.2.2.2.2.2.2.1
theorem Ww.c {M : Mem} (h : Ww M) : GC (M.1 11 7) (M.1 70) (M.1 71) (M.1 72) := h.2.2.2.2.2.2.2.2.2.2
theorem Inv.ww {M : Mem} (h : Inv M) : Ww M := ⟨h.rel.base, h.rel.more, h.rel.kinds, h.rel.cycles, h.rel.cOf, h.rel.cBy, h.rel.cPace, h.rel.cTime, h.e, h.f, h.c⟩
def wq (q : Nat) : Prop := q = 1 ∨ q = 11 ∨ (14 ≤ q ∧ q ≤ 20) ∨ (66 ≤ q ∧ q ≤ 72)
def Wc (M N : Mem) : Prop := (∀ q, wq q → N.1 q = M.1 q) ∧ N.1 2 8 = M.1 2 8
theorem Wc.c1 {M N : Mem} (e : Wc M N) : N.1 1 = M.1 1 := e.1 1 (Or.inl rfl)
theorem Wc.c11 {M N : Mem} (e : Wc M N) : N.1 11 = M.1 11 := e.1 11 (Or.inr (Or.inl rfl))
theorem Wc.lo {M N : Mem} (e : Wc M N) {q : Nat} (h : 14 ≤ q) (k : q ≤ 20) : N.1 q = M.1 q := e.1 q (Or.inr (Or.inr (Or.inl ⟨h, k⟩)))
theorem Wc.hi {M N : Mem} (e : Wc M N) {q : Nat} (h : 66 ≤ q) (k : q ≤ 72) : N.1 q = M.1 q := e.1 q (Or.inr (Or.inr (Or.inr ⟨h, k⟩)))
theorem Wc.rf (M : Mem) : Wc M M := ⟨fun _ _ => rfl, rfl⟩
theorem Wc.tr {M N O : Mem} (h : Wc M N) (k : Wc N O) : Wc M O := ⟨fun q hq => (k.1 q hq).trans (h.1 q hq), k.2.trans h.2⟩
theorem Wc.ww {M N : Mem} (e : Wc M N) (h : Ww M) : Ww N := by
  unfold Ww
  rw [e.2, e.c1, e.c11, e.lo (q := 14) (by decide) (by decide), e.lo (q := 15) (by decide) (by decide), e.lo (q := 16) (by decide) (by decide), e.lo (q := 17) (by decide) (by decide), e.lo (q := 18) (by decide) (by decide), e.lo (q := 19) (by decide) (by decide), e.lo (q := 20) (by decide) (by decide), e.hi (q := 66) (by decide) (by decide), e.hi (q := 67) (by decide) (by decide), e.hi (q := 68) (by decide) (by decide), e.hi (q := 69) (by decide) (by decide), e.hi (q := 70) (by decide) (by decide), e.hi (q := 71) (by decide) (by decide), e.hi (q := 72) (by decide) (by decide)]
  exact h
theorem Wc.nrvE {M N : Mem} (e : Wc M N) (nf : Nat) : nrv N nf = nrv M nf := by
  funext c
  unfold nrv
  rw [e.hi (q := 67) (by decide) (by decide), e.hi (q := 68) (by decide) (by decide), e.hi (q := 70) (by decide) (by decide), e.hi (q := 71) (by decide) (by decide), e.hi (q := 72) (by decide) (by decide)]
theorem nrv_N {M : Mem} (h : Ww M) {nf nc c : Nat} (hnf : nf ≤ 20) (ef : M.1 11 4 = nI nf) (hnc : nc ≤ 60) (ec : M.1 11 7 = nI nc) (hc : c < nc) : isN 2497 (nrv M nf c) := by
  obtain ⟨k, k1, k2, k3⟩ := h.c
  have : k = nc := (nI_eq (by omega) (by omega)).mp (k2.symm.trans ec)
  subst this
  obtain ⟨-, ⟨x, x1, x2, ex⟩, t, t1, t2, et⟩ := k3 c hc
  obtain ⟨m, m1, m2, m3, -⟩ := h.f
  have : m = nf := (nI_eq (by omega) (by omega)).mp (m2.symm.trans ef)
  subst this
  obtain ⟨w, w1, w2, w3, w4⟩ := sm_film (fo := M.1 67) (fv := M.1 68) (M.1 70 c) m m1 (fun j hj => (m3 j hj).2)
  obtain ⟨b1, b2⟩ := hab_b (by omega) w2 w3 w4
  have hd : (nI x - hbt (M.1 67) (M.1 68) (M.1 70 c) m).toInt = (x : Int) - (hbt (M.1 67) (M.1 68) (M.1 70 c) m).toInt := by
    rw [Int32.toInt_sub, nI_toInt (by omega)]
    unfold hbt
    rw [bm32 (by omega) (by omega)]
  have b1 : -100 ≤ (hbt (M.1 67) (M.1 68) (M.1 70 c) m).toInt := b1
  have b2 : (hbt (M.1 67) (M.1 68) (M.1 70 c) m).toInt ≤ 100 := b2
  unfold nrv nrmF
  rw [ex, et]
  exact isN_div (isN_mul (A := 999) ⟨t, t2, rfl⟩ (mx1_N (by omega) (by omega))) (by decide) (d := 100) (by decide) (by decide)
theorem q_habitOf {M : Mem} (h : Ww M) {r : Nat} (hr : r < 4) {n : Nat} (hn : n ≤ 20) (e : M.1 11 4 = nI n) : f_X8_habitOf (nI r) M = some (hbt (M.1 67) (M.1 68) (nI r) n, M) := by
  obtain ⟨k, hk, ek, -, h4⟩ := h.f
  have : k = n := (nI_eq (by omega) (by omega)).mp (ek.symm.trans e)
  subst this
  obtain ⟨t1, t2⟩ := h4 r hr
  unfold f_X8_habitOf
  simp only [jn, gV_nI hr (show (4 : Nat) < 2 ^ 31 by decide), nI_clamp (show r < 2 ^ 31 by omega), t1, t2, gN, hbt, hab]
  by_cases hc : sm (fun j => if M.1 67 j = nI r then 1 else 0) k = 0
  · simp only [hc, if_true]
  · simp only [hc, if_false]
theorem q_normalOf {M : Mem} (h : Ww M) {n : Nat} (hn : n ≤ 20) (e : M.1 11 4 = nI n) {c nc : Nat} (hnc : nc ≤ 60) (ec : M.1 11 7 = nI nc) (hc : c < nc) : f_X8_normalOf (nI c) M = some (nrv M n c, M) := by
  obtain ⟨k, hk, ek, hb⟩ := h.c
  have : k = nc := (nI_eq (by omega) (by omega)).mp (ek.symm.trans ec)
  subst this
  obtain ⟨⟨r, hr, er⟩, -⟩ := hb c hc
  unfold f_X8_normalOf
  simp only [gV_nI (show c < 60 by omega) (show (60 : Nat) < 2 ^ 31 by decide), nI_clamp (show c < 2 ^ 31 by omega), h.cBy, er, q_habitOf h (show r < 4 by omega) hn e, bE_s, bI, h.cPace, h.cTime, mx1_lt, nrv, nrmF]
theorem q_allowanceOf {M : Mem} (h : Ww M) {i : Nat} (hi : i < 12) : f_X1_allowanceOf (nI i) M = some (alw (M.1 66 i) (M.1 11 2) (M.1 11 3), M) := by
  unfold f_X1_allowanceOf alw
  rw [gV_nI hi (by decide), nI_clamp (by omega), h.kinds, h.base, h.more]
  by_cases h1 : M.1 66 i = 1
  · simp only [h1, if_true]
  · by_cases h2 : M.1 66 i = 2
    · simp only [h2, if_true, show ¬ (2 : Int32) = 1 by decide, if_false]
    · by_cases h3 : M.1 66 i = 3
      · simp only [h3, if_true, show ¬ (3 : Int32) = 1 by decide, show ¬ (3 : Int32) = 2 by decide, if_false]
      · simp only [h1, h2, h3, if_false]
theorem alw_N {M : Mem} (h : Ww M) (i : Nat) : isN 200 (alw (M.1 66 i) (M.1 11 2) (M.1 11 3)) := by
  obtain ⟨-, -, hb, hm⟩ := h.e
  unfold alw
  split
  · exact isN_mono (isN_add hb hm) (by decide)
  · split
    · exact isN_mono (isN_add hb (isN_mul (A := 3) ⟨3, by decide, rfl⟩ hm)) (by decide)
    · split
      · exact isN_mono (isN_div hb (by decide) (d := 2) (by decide) (by decide)) (by decide)
      · exact isN_mono hb (by decide)
/-! putting in order -/
def ins (v : Int32) : Nat → (Nat → Int32) → Nat → Int32
  | 0, f => upd f 0 v
  | p + 1, f => if f p ≤ v then upd f (p + 1) v else ins v p (upd f (p + 1) (f p))
theorem ins_s (v : Int32) (p : Nat) (f : Nat → Int32) : ins v (p + 1) f = if f p ≤ v then upd f (p + 1) v else ins v p (upd f (p + 1) (f p)) := rfl
theorem ins_hi (v : Int32) : ∀ (p : Nat) (f : Nat → Int32) {i : Nat}, p < i → ins v p f i = f i
  | 0, f, i, h => upd_n (by omega)
  | p + 1, f, i, h => by
    rw [ins_s]
    by_cases q : f p ≤ v
    · rw [if_pos q, upd_n (by omega)]
    · rw [if_neg q, ins_hi v p _ (by omega), upd_n (by omega)]
theorem ins_congr (v : Int32) : ∀ (p : Nat) (f g : Nat → Int32), (∀ i, i < p → f i = g i) → ∀ i, i < p + 1 → ins v p f i = ins v p g i
  | 0, f, g, h, i, hi => by
    have : i = 0 := by omega
    subst this
    show upd f 0 v 0 = upd g 0 v 0
    rw [upd_s, upd_s]
  | p + 1, f, g, h, i, hi => by
    rw [ins_s, ins_s, h p (by omega)]
    by_cases q : g p ≤ v
    · rw [if_pos q, if_pos q]
      by_cases c : i = p + 1
      · rw [c, upd_s, upd_s]
      · rw [upd_n c, upd_n c]; exact h i (by omega)
    · rw [if_neg q, if_neg q]
      by_cases c : i = p + 1
      · rw [ins_hi v p _ (by omega), ins_hi v p _ (by omega), c, upd_s, upd_s]
      · exact ins_congr v p _ _ (fun t ht => by rw [upd_n (by omega), upd_n (by omega)]; exact h t (by omega)) i (by omega)
theorem ins_P {P : Int32 → Prop} {v : Int32} (hv : P v) : ∀ (p : Nat) (f : Nat → Int32), (∀ i, P (f i)) → ∀ i, P (ins v p f i)
  | 0, f, h => upd_all h hv
  | p + 1, f, h => by
    rw [ins_s]
    by_cases q : f p ≤ v
    · rw [if_pos q]; exact upd_all h hv
    · rw [if_neg q]; exact ins_P hv p _ (upd_all h (h p))
def cnE (co : Nat → Int32) (e : Int32) (a : Nat) : Nat := smN (fun c => if co c = e then 1 else 0) a
theorem cnE_s (co : Nat → Int32) (e : Int32) (a : Nat) : cnE co e (a + 1) = cnE co e a + if co a = e then 1 else 0 := rfl
theorem cnE_le (co : Nat → Int32) (e : Int32) (a : Nat) : cnE co e a ≤ a := by
  have := smN_le (g := fun c => if co c = e then 1 else 0) (B := 1) (n := a) (fun b _ => by split <;> omega)
  unfold cnE
  omega
def srt (co nr : Nat → Int32) (e : Int32) (f0 : Nat → Int32) : Nat → Nat → Int32
  | 0 => f0
  | a + 1 => if co a = e then ins (nr a) (cnE co e a) (srt co nr e f0 a) else srt co nr e f0 a
theorem srt_s (co nr : Nat → Int32) (e : Int32) (f0 : Nat → Int32) (a : Nat) : srt co nr e f0 (a + 1) = if co a = e then ins (nr a) (cnE co e a) (srt co nr e f0 a) else srt co nr e f0 a := rfl
theorem srt_congr (co nr : Nat → Int32) (e : Int32) (f0 g0 : Nat → Int32) : ∀ (a i : Nat), i < cnE co e a → srt co nr e f0 a i = srt co nr e g0 a i
  | 0, i, h => absurd h (Nat.not_lt_zero i)
  | a + 1, i, h => by
    rw [cnE_s] at h
    rw [srt_s, srt_s]
    by_cases q : co a = e
    · rw [if_pos q] at h
      rw [if_pos q, if_pos q]
      exact ins_congr _ _ _ _ (fun t ht => srt_congr co nr e f0 g0 a t ht) i h
    · rw [if_neg q] at h
      rw [if_neg q, if_neg q]
      exact srt_congr co nr e f0 g0 a i h
theorem srt_P {P : Int32 → Prop} {co nr : Nat → Int32} {e : Int32} {f0 : Nat → Int32} (h0 : ∀ i, P (f0 i)) : ∀ (a : Nat), (∀ c, c < a → P (nr c)) → ∀ i, P (srt co nr e f0 a i)
  | 0, _ => h0
  | a + 1, h => by
    rw [srt_s]
    by_cases q : co a = e
    · rw [if_pos q]; exact ins_P (h a (by omega)) _ _ (srt_P h0 a (fun c hc => h c (by omega)))
    · rw [if_neg q]; exact srt_P h0 a (fun c hc => h c (by omega))
theorem l_put (v : Int32) : ∀ (p k : Nat) (N : Mem), p < 60 → ∃ (N' : Mem) (p' : Nat), (∀ K : Int32 → Mem → Option Ret, f_X8_putInOrder_L5 v (k + (p + 1)) (nI p) N K = K (nI p') N') ∧ p' < 60 ∧ (∀ q, q ≠ 21 → N'.1 q = N.1 q) ∧ upd (N'.1 21) p' v = ins v p (N.1 21)
  | 0, k, N, hp => by
    refine ⟨N, 0, fun K => ?_, by omega, fun _ _ => rfl, rfl⟩
    rw [show k + (0 + 1) = k + 1 from rfl, f_X8_putInOrder_L5, if_pos (show nI 0 ≤ 0 by decide)]
  | p + 1, k, N, hp => by
    have g1 : ∀ z : Option Ret, gV (nI p) 60 z = z := fun z => gV_nI (by omega) (by decide)
    have g2 : ∀ z : Option Ret, gV (nI (p + 1)) 60 z = z := fun z => gV_nI (by omega) (by decide)
    have hun : ∀ K : Int32 → Mem → Option Ret, f_X8_putInOrder_L5 v (k + (p + 1) + 1) (nI (p + 1)) N K = if N.1 21 p ≤ v then K (nI (p + 1)) N else f_X8_putInOrder_L5 v (k + (p + 1)) (nI p) (up2 N 21 (p + 1) (N.1 21 p)) K := by
      intro K
      rw [f_X8_putInOrder_L5, if_neg (nI_nle (by omega) (by omega)), nI_pred, g1, nI_clamp (show p < 2 ^ 31 by omega), g1, g2, nI_clamp (show p + 1 < 2 ^ 31 by omega), pk_m1]
      rfl
    rw [ins_s]
    by_cases q : N.1 21 p ≤ v
    · refine ⟨N, p + 1, fun K => ?_, hp, fun _ _ => rfl, by rw [if_pos q]⟩
      rw [show k + (p + 1 + 1) = (k + (p + 1)) + 1 from rfl, hun, if_pos q]
    · obtain ⟨N', p', n1, n2, n3, n4⟩ := l_put v p k (up2 N 21 (p + 1) (N.1 21 p)) (by omega)
      refine ⟨N', p', fun K => ?_, n2, fun r hr => (n3 r hr).trans (up2_ne hr), ?_⟩
      · rw [show k + (p + 1 + 1) = (k + (p + 1)) + 1 from rfl, hun, if_neg q]
        exact n1 K
      · rw [if_neg q, n4, up2_same]
theorem e_put {N : Mem} {n : Nat} (hn : n < 60) (e : N.1 2 10 = nI n) (v : Int32) : ∃ N' : Mem, f_X8_putInOrder v N = some (0, N') ∧ (∀ q, q ≠ 2 → q ≠ 21 → N'.1 q = N.1 q) ∧ (∀ s, s ≠ 10 → N'.1 2 s = N.1 2 s) ∧ N'.1 2 10 = nI (n + 1) ∧ N'.1 21 = ins v n (N.1 21) := by
  obtain ⟨k, hk⟩ := FU_pos (d := n) (by omega)
  obtain ⟨N1, p', n1, n2, n3, n4⟩ := l_put v n k N hn
  refine ⟨up2 (up2 N1 21 p' v) 2 10 (nI (n + 1)), ?_, fun q h1 h2 => ?_, fun s hs => ?_, ?_, ?_⟩
  · unfold f_X8_putInOrder bI
    rw [e, hk]
    refine (n1 _).trans ?_
    rw [gV_nI n2 (by decide), nI_clamp (by omega)]
    show some (0, up2 (up2 N1 21 p' v) 2 10 ((up2 N1 21 p' v).1 2 10 + 1)) = _
    rw [up2_ne (show (2 : Nat) ≠ 21 by decide), n3 2 (by decide), e, nI_1]
  · rw [up2_ne h1, up2_ne h2, n3 q h2]
  · rw [up2_same, upd_n hs, up2_ne (by decide), n3 2 (by decide)]
  · rw [up2_same, upd_s]
  · rw [up2_ne (by decide), up2_same, n4]
def Sy (M N : Mem) : Prop := (∀ q, q ≠ 2 → q ≠ 21 → N.1 q = M.1 q) ∧ ∀ s, s < 10 → N.1 2 s = M.1 2 s
theorem Sy.wc {M N : Mem} (h : Sy M N) : Wc M N := ⟨fun q hq => h.1 q (by unfold wq at hq; omega) (by unfold wq at hq; omega), h.2 8 (by decide)⟩
theorem Sy.tr {M N O : Mem} (h : Sy M N) (k : Sy N O) : Sy M O := ⟨fun q h1 h2 => (k.1 q h1 h2).trans (h.1 q h1 h2), fun s hs => (k.2 s hs).trans (h.2 s hs)⟩
theorem l_gatC {M : Mem} (h : Ww M) {nf nc : Nat} (hnf : nf ≤ 20) (ef : M.1 11 4 = nI nf) (hnc : nc ≤ 60) (ec : M.1 11 7 = nI nc) (e : Int32) (f0 : Nat → Int32) (d : Nat) : ∀ (a k : Nat) (N : Mem), a + d = nc → Sy M N → N.1 2 10 = nI (cnE (M.1 69) e a) → N.1 21 = srt (M.1 69) (nrv M nf) e f0 a → ∃ N' : Mem, (∀ K : Int32 → Mem → Option Ret, f_X8_gatherNormals_L7 e (k + (d + 1)) (nI a) N K = K (nI nc) N') ∧ Sy M N' ∧ N'.1 2 10 = nI (cnE (M.1 69) e nc) ∧ N'.1 21 = srt (M.1 69) (nrv M nf) e f0 nc := by
  induction d with
  | zero =>
    intro a k N hh hs h1 h2
    have : a = nc := by omega
    subst this
    have e28 : N.1 2 8 = nI a := by rw [hs.2 8 (by decide), h.cycles, ec]
    refine ⟨N, fun K => ?_, hs, h1, h2⟩
    rw [show k + (0 + 1) = k + 1 from rfl, f_X8_gatherNormals_L7, e28, if_pos (nI_le (Nat.le_refl a) (by omega))]
  | succ d ih =>
    intro a k N hh hs h1 h2
    have hw := hs.wc.ww h
    have e28 : N.1 2 8 = nI nc := by rw [hs.2 8 (by decide), h.cycles, ec]
    have e17 : N.1 17 = M.1 69 := by rw [hs.1 17 (by decide) (by decide), h.cOf]
    have hcl := cnE_le (M.1 69) e a
    have hnm := q_normalOf hw (n := nf) hnf (by rw [hs.wc.c11]; exact ef) hnc (by rw [hs.wc.c11]; exact ec) (show a < nc by omega)
    rw [hs.wc.nrvE] at hnm
    have hun : ∀ K : Int32 → Mem → Option Ret, f_X8_gatherNormals_L7 e (k + (d + 1) + 1) (nI a) N K = if M.1 69 a = e then bE (f_X8_putInOrder (nrv M nf a) N) (fun r7 M6 => f_X8_gatherNormals_L7 e (k + (d + 1)) (nI (a + 1)) M6 K) else f_X8_gatherNormals_L7 e (k + (d + 1)) (nI (a + 1)) N K := by
      intro K
      rw [f_X8_gatherNormals_L7, e28, if_neg (nI_ge (show a < nc by omega) (by omega)), gV_nI (show a < 60 by omega) (by decide), nI_clamp (show a < 2 ^ 31 by omega), e17, hnm]
      simp only [jn, bE_s, nI_1]
    by_cases q : M.1 69 a = e
    · obtain ⟨N1, a1, a2, a3, a4, a5⟩ := e_put (show cnE (M.1 69) e a < 60 by omega) h1 (nrv M nf a)
      have hs1 : Sy M N1 := ⟨fun r r1 r2 => (a2 r r1 r2).trans (hs.1 r r1 r2), fun s hs' => (a3 s (by omega)).trans (hs.2 s hs')⟩
      obtain ⟨N', n1, n2, n3, n4⟩ := ih (a + 1) k N1 (by omega) hs1 (by rw [cnE_s, if_pos q]; exact a4) (by rw [srt_s, if_pos q, a5, h2])
      refine ⟨N', fun K => ?_, n2, n3, n4⟩
      rw [show k + (d + 1 + 1) = (k + (d + 1)) + 1 from rfl, hun, if_pos q, a1, bE_s]
      exact n1 K
    · obtain ⟨N', n1, n2, n3, n4⟩ := ih (a + 1) k N (by omega) hs (by rw [cnE_s, if_neg q]; exact h1) (by rw [srt_s, if_neg q, h2])
      refine ⟨N', fun K => ?_, n2, n3, n4⟩
      rw [show k + (d + 1 + 1) = (k + (d + 1)) + 1 from rfl, hun, if_neg q]
      exact n1 K
theorem e_gatC {M : Mem} (h : Ww M) {nf nc : Nat} (hnf : nf ≤ 20) (ef : M.1 11 4 = nI nf) (hnc : nc ≤ 60) (ec : M.1 11 7 = nI nc) (e : Int32) : ∃ N : Mem, f_X8_gatherNormals e M = some (0, N) ∧ Sy M N ∧ N.1 2 10 = nI (cnE (M.1 69) e nc) ∧ N.1 21 = srt (M.1 69) (nrv M nf) e (M.1 21) nc := by
  obtain ⟨k, hk⟩ := FU_pos (d := nc) (by omega)
  obtain ⟨N, n1, n2⟩ := l_gatC h hnf ef hnc ec e (M.1 21) nc 0 k (up2 M 2 10 0) (by omega) ⟨fun q q1 _ => up2_ne q1, fun s hs => by rw [up2_same, upd_n (by omega)]⟩ (by rw [up2_same, upd_s]; rfl) (by rw [up2_ne (by decide)]; rfl)
  rw [← hk, show nI 0 = 0 from rfl] at n1
  refine ⟨N, ?_, n2⟩
  unfold f_X8_gatherNormals bM
  exact n1 _
theorem l_putM (v1 v2 v3 v4 v : Int32) : ∀ (p k : Nat) (N : Mem), p < 60 → ∃ (N' : Mem) (p' : Nat), (∀ K : Int32 → Mem → Option Ret, f_X11_keptOf_L36 v1 v2 v3 v4 v (k + (p + 1)) (nI p) N K = K (nI p') N') ∧ p' < 60 ∧ (∀ q, q ≠ 96 → N'.1 q = N.1 q) ∧ upd (N'.1 96) p' v = ins v p (N.1 96)
  | 0, k, N, hp => by
    refine ⟨N, 0, fun K => ?_, by omega, fun _ _ => rfl, rfl⟩
    rw [show k + (0 + 1) = k + 1 from rfl, f_X11_keptOf_L36, if_pos (show nI 0 ≤ 0 by decide)]
  | p + 1, k, N, hp => by
    have g1 : ∀ z : Option Ret, gV (nI p) 60 z = z := fun z => gV_nI (by omega) (by decide)
    have g2 : ∀ z : Option Ret, gV (nI (p + 1)) 60 z = z := fun z => gV_nI (by omega) (by decide)
    have hun : ∀ K : Int32 → Mem → Option Ret, f_X11_keptOf_L36 v1 v2 v3 v4 v (k + (p + 1) + 1) (nI (p + 1)) N K = if N.1 96 p ≤ v then K (nI (p + 1)) N else f_X11_keptOf_L36 v1 v2 v3 v4 v (k + (p + 1)) (nI p) (up2 N 96 (p + 1) (N.1 96 p)) K := by
      intro K
      rw [f_X11_keptOf_L36, if_neg (nI_nle (by omega) (by omega)), nI_pred, g1, nI_clamp (show p < 2 ^ 31 by omega), g1, g2, nI_clamp (show p + 1 < 2 ^ 31 by omega), pk_m1]
      rfl
    rw [ins_s]
    by_cases q : N.1 96 p ≤ v
    · refine ⟨N, p + 1, fun K => ?_, hp, fun _ _ => rfl, by rw [if_pos q]⟩
      rw [show k + (p + 1 + 1) = (k + (p + 1)) + 1 from rfl, hun, if_pos q]
    · obtain ⟨N', p', n1, n2, n3, n4⟩ := l_putM v1 v2 v3 v4 v p k (up2 N 96 (p + 1) (N.1 96 p)) (by omega)
      refine ⟨N', p', fun K => ?_, n2, fun r hr => (n3 r hr).trans (up2_ne hr), ?_⟩
      · rw [show k + (p + 1 + 1) = (k + (p + 1)) + 1 from rfl, hun, if_neg q]
        exact n1 K
      · rw [if_neg q, n4, up2_same]
theorem l_gatM {M : Mem} {nf nc : Nat} (hnf : nf ≤ 20) (ef : M.1 11 4 = nI nf) (hnc : nc ≤ 60) (ec : M.1 11 7 = nI nc) (e v2 : Int32) (f0 : Nat → Int32) (d : Nat) : ∀ (a k : Nat) (N : Mem), a + d = nc → (∀ q, q ≠ 96 → N.1 q = M.1 q) → N.1 96 = srt (M.1 69) (nrv M nf) e f0 a → ∃ N' : Mem, (∀ K : Int32 → Int32 → Mem → Option Ret, f_X11_keptOf_L5 e v2 (k + (d + 1)) (nI (cnE (M.1 69) e a)) (nI a) N K = K (nI (cnE (M.1 69) e nc)) (nI nc) N') ∧ (∀ q, q ≠ 96 → N'.1 q = M.1 q) ∧ N'.1 96 = srt (M.1 69) (nrv M nf) e f0 nc := by
  induction d with
  | zero =>
    intro a k N hh hs h2
    have : a = nc := by omega
    subst this
    refine ⟨N, fun K => ?_, hs, h2⟩
    rw [show k + (0 + 1) = k + 1 from rfl, f_X11_keptOf_L5, hs 11 (by decide), ec, if_pos (nI_le (Nat.le_refl a) (by omega))]
  | succ d ih =>
    intro a k N hh hs h2
    have hcl := cnE_le (M.1 69) e a
    have hnm := e_X11_normalOf (M := N) hnf (by rw [hs 11 (by decide)]; exact ef) (show a < 60 by omega)
    rw [hs 67 (by decide), hs 68 (by decide), hs 70 (by decide), hs 71 (by decide), hs 72 (by decide)] at hnm
    have hnm : f_X11_normalOf (nI a) N = some (nrv M nf a, N) := hnm
    by_cases q : M.1 69 a = e
    · obtain ⟨z, hz⟩ := FU_pos (d := cnE (M.1 69) e a) (by omega)
      obtain ⟨N1, p', a1, a2, a3, a4⟩ := l_putM e v2 (nI (cnE (M.1 69) e a)) (nI a) (nrv M nf a) (cnE (M.1 69) e a) z N (by omega)
      rw [← hz] at a1
      obtain ⟨N', n1, n2, n3⟩ := ih (a + 1) k (up2 N1 96 p' (nrv M nf a)) (by omega) (fun r hr => (up2_ne hr).trans ((a3 r hr).trans (hs r hr))) (by rw [srt_s, if_pos q, up2_same, a4, h2])
      refine ⟨N', fun K => ?_, n2, n3⟩
      have n1 := n1 K
      rw [cnE_s, if_pos q] at n1
      rw [show k + (d + 1 + 1) = (k + (d + 1)) + 1 from rfl, f_X11_keptOf_L5, hs 11 (by decide), ec, if_neg (nI_ge (show a < nc by omega) (by omega)), gV_nI (show a < 60 by omega) (by decide), nI_clamp (show a < 2 ^ 31 by omega), hs 69 (by decide), hnm]
      rw [jn_e, if_pos q, bE_s, a1]
      rw [gV_nI a2 (by decide), nI_clamp (show p' < 2 ^ 31 by omega), bM_e, nI_1, nI_1]
      exact n1
    · obtain ⟨N', n1, n2, n3⟩ := ih (a + 1) k N (by omega) hs (by rw [srt_s, if_neg q, h2])
      refine ⟨N', fun K => ?_, n2, n3⟩
      have n1 := n1 K
      rw [cnE_s, if_neg q, Nat.add_zero] at n1
      rw [show k + (d + 1 + 1) = (k + (d + 1)) + 1 from rfl, f_X11_keptOf_L5, hs 11 (by decide), ec, if_neg (nI_ge (show a < nc by omega) (by omega)), gV_nI (show a < 60 by omega) (by decide), nI_clamp (show a < 2 ^ 31 by omega), hs 69 (by decide)]
      generalize FU = F
      simp only [jn, if_neg q, nI_1]
      exact n1
