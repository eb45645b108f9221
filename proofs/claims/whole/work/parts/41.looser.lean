/-! LOOSER -/
theorem sh_b : ∀ b, b < 32 → ((nI b &&& 31).toBitVec.smod 32).toNat = b := by decide +kernel
theorem shl_n : ∀ n, n < 15 → (1 : Int32) <<< (nI n &&& 31) = nI (2 ^ n) := by decide +kernel
theorem bitN {s b : Nat} (hs : s < 2 ^ 31) (hb : b < 32) : (nI s >>> (nI b &&& 31)) &&& 1 = nI (s / 2 ^ b % 2) := by
  rw [pk_shrN hs (nI b &&& 31) b (sh_b b hb), pk_andN (m := 1) (by
    have : s / 2 ^ b ≤ s := Nat.div_le_self s _
    omega) 1 (by decide)]
def onN (s m : Nat) : Nat := smN (fun b => s / 2 ^ b % 2) m
theorem onN_s (s m : Nat) : onN s (m + 1) = onN s m + s / 2 ^ m % 2 := rfl
theorem l_X11_ones (M : Mem) (K : Int32 → Int32 → Mem → Option Ret) {s : Nat} (hs : s < 2 ^ 31) : ∀ (d a k : Nat), a + d = 14 → f_X11_ones_L4 (nI s) (k + (d + 1)) (nI (onN s a)) (nI a) M K = K (nI (onN s 14)) (nI 14) M
  | 0, a, k, hh => by
    have : a = 14 := by omega
    subst this
    rw [show k + (0 + 1) = k + 1 from rfl, f_X11_ones_L4, if_pos (show (14 : Int32) ≤ nI 14 by decide)]
  | d + 1, a, k, hh => by
    have ih := l_X11_ones M K hs d (a + 1) k (by omega)
    rw [onN_s] at ih
    rw [show k + (d + 1 + 1) = (k + (d + 1)) + 1 from rfl, f_X11_ones_L4, if_neg (show ¬ (14 : Int32) ≤ nI a from nI_ge (b := 14) (by omega) (by decide)), bitN hs (by omega), nI_add, nI_1]
    exact ih
theorem e_X11_ones (M : Mem) {s : Nat} (hs : s < 2 ^ 31) : f_X11_ones (nI s) M = some (nI (onN s 14), M) := by
  obtain ⟨k, hk⟩ := FU_pos (d := 14) (by omega)
  unfold f_X11_ones
  rw [hk]
  exact l_X11_ones M (fun w2 w3 M4 => some (w2, M4)) hs 14 0 k (by omega)
theorem onN_le (s : Nat) : ∀ m, onN s m ≤ m := by
  intro m
  have := smN_le (g := fun b => s / 2 ^ b % 2) (B := 1) (n := m) (fun b _ => by omega)
  unfold onN
  omega
def wcI (k n : Int32) : Nat → Int32 → Int32 → Int32 → Int32
  | 0, _, tog, _ => tog
  | d + 1, ways, tog, i => wcI k n d ((ways * (n - i)) / (i + 1)) (tog + if i < k then 0 else ways) (i + 1)
def cntN (k m : Nat) : Nat := smN (fun s => if onN s 14 < k then 0 else 1) m
theorem cntN_s (k m : Nat) : cntN k (m + 1) = cntN k m + if onN m 14 < k then 0 else 1 := rfl
theorem cntN_le (k m : Nat) : cntN k m ≤ m := by
  have := smN_le (g := fun s => if onN s 14 < k then 0 else 1) (B := 1) (n := m) (fun b _ => by split <;> omega)
  unfold cntN
  omega
set_option maxRecDepth 10000 in
theorem wc_all : ∀ n, n < 9 → ∀ k, k < 9 → k ≤ n → wcI (nI k) (nI n) (n + 1) 1 0 0 = nI (cntN k (2 ^ n)) := by decide +kernel
theorem gN_n {y : Int32} {k : Option Ret} (h : ¬ y = 0) : gN y k = k := if_neg h
theorem l_X0_ways (k : Int32) {n : Nat} (hn : n < 2 ^ 30) (M : Mem) : ∀ (d i z : Nat) (ways tog : Int32), i + d = n + 1 → f_X0_waysToChoose_L7 k (nI n) (z + (d + 1)) ways tog (nI i) M (fun w5 w6 w7 M8 => some (w6, M8)) = some (wcI k (nI n) d ways tog (nI i), M)
  | 0, i, z, ways, tog, hh => by
    have : i = n + 1 := by omega
    subst this
    rw [show z + (0 + 1) = z + 1 from rfl, f_X0_waysToChoose_L7, if_pos (nI_lt (by omega) (by omega))]
    rfl
  | d + 1, i, z, ways, tog, hh => by
    rw [show z + (d + 1 + 1) = (z + (d + 1)) + 1 from rfl, f_X0_waysToChoose_L7, if_neg (nI_nlt (by omega) (by omega)), jn_ite]
    simp only [bI]
    rw [nI_1, gN_n (nI_ne0 (by omega) (by omega)), l_X0_ways k hn M d (i + 1) z _ _ (by omega), ← nI_1]
    rfl
theorem e_X0_ways (M : Mem) {k n : Nat} (hn : n ≤ 8) (hk : k ≤ n) : f_X0_waysToChoose (nI k) (nI n) M = some (nI (cntN k (2 ^ n)), M) := by
  obtain ⟨z, hz⟩ := FU_pos (d := n + 1) (by omega)
  unfold f_X0_waysToChoose
  rw [hz, ← wc_all n (by omega) k (by omega) hk]
  exact l_X0_ways (nI k) (by omega) M (n + 1) 0 z 1 0 (by omega)
theorem l_X11_subs (M : Mem) (v1 v2 : Int32) {u g : Nat} (hu : u < 15) (hg : g ≤ 14) (K : Int32 → Int32 → Mem → Option Ret) : ∀ (d a k : Nat), a + d = 2 ^ u → f_X11_isLooser_L97 v1 v2 (nI u) (nI g) (k + (d + 1)) (nI (cntN g a)) (nI a) M K = K (nI (cntN g (2 ^ u))) (nI (2 ^ u)) M
  | 0, a, k, hh => by
    have : a = 2 ^ u := by omega
    subst this
    have hb : 2 ^ u ≤ 2 ^ 14 := Nat.pow_le_pow_right (by decide) (by omega)
    rw [show k + (0 + 1) = k + 1 from rfl, f_X11_isLooser_L97, shl_n u hu, if_pos (nI_le (Nat.le_refl _) (by omega))]
  | d + 1, a, k, hh => by
    have hb : 2 ^ u ≤ 2 ^ 14 := Nat.pow_le_pow_right (by decide) (by omega)
    have ih := l_X11_subs M v1 v2 hu hg K d (a + 1) k (by omega)
    rw [cntN_s] at ih
    rw [show k + (d + 1 + 1) = (k + (d + 1)) + 1 from rfl, f_X11_isLooser_L97, shl_n u hu, if_neg (nI_ge (show a < 2 ^ u by omega) (by omega)), e_X11_ones M (by omega), bE_s, jn_ite]
    simp only [bI, nI_1]
    have ho := onN_le a 14
    by_cases c : onN a 14 < g
    · rw [if_pos c] at ih
      rw [if_pos (nI_lt c (by omega)), i_a0]
      exact ih
    · rw [if_neg c] at ih
      rw [if_neg (nI_nlt (by omega) (by omega)), nI_1]
      exact ih
def uF (M : Mem) (nr n j t : Nat) : Nat → Nat := fun x => if ef M nr n x j = -1 then 0 else if ef M nr n x t = -1 then 0 else if ef M nr n x j = ef M nr n x t then 0 else 1
def gF (M : Mem) (nr n j t : Nat) : Nat → Nat := fun x => if ef M nr n x j = -1 then 0 else if ef M nr n x t = -1 then 0 else if ef M nr n x j ≤ ef M nr n x t then 0 else 1
theorem sc_uF {M N : Mem} (h : Sc M N) (nr n j t : Nat) : uF N nr n j t = uF M nr n j t := by
  funext x
  unfold uF
  rw [sc_ef h, sc_ef h]
theorem sc_gF {M N : Mem} (h : Sc M N) (nr n j t : Nat) : gF N nr n j t = gF M nr n j t := by
  funext x
  unfold gF
  rw [sc_ef h, sc_ef h]
theorem i_lerf (x : Int32) : x ≤ x := by rw [i_le]; omega
theorem gF_uF (M : Mem) (nr n j t x : Nat) : gF M nr n j t x ≤ uF M nr n j t x ∧ uF M nr n j t x ≤ 1 := by
  unfold gF uF
  by_cases c1 : ef M nr n x j = -1
  · rw [if_pos c1, if_pos c1]; exact ⟨Nat.le_refl _, by omega⟩
  · by_cases c2 : ef M nr n x t = -1
    · rw [if_neg c1, if_neg c1, if_pos c2, if_pos c2]; exact ⟨Nat.le_refl _, by omega⟩
    · rw [if_neg c1, if_neg c1, if_neg c2, if_neg c2]
      by_cases c3 : ef M nr n x j = ef M nr n x t
      · rw [if_pos c3, if_pos (by rw [c3]; exact i_lerf _)]; exact ⟨Nat.le_refl _, by omega⟩
      · rw [if_neg c3]
        split <;> omega
def unv (M : Mem) (nr n j t m : Nat) : Nat := smN (uF M nr n j t) m
def grv (M : Mem) (nr n j t m : Nat) : Nat := smN (gF M nr n j t) m
theorem unv_s (M : Mem) (nr n j t m : Nat) : unv M nr n j t (m + 1) = unv M nr n j t m + uF M nr n j t m := rfl
theorem grv_s (M : Mem) (nr n j t m : Nat) : grv M nr n j t (m + 1) = grv M nr n j t m + gF M nr n j t m := rfl
theorem unv_le (M : Mem) (nr n j t m : Nat) : unv M nr n j t m ≤ m := by
  have := smN_le (g := uF M nr n j t) (B := 1) (n := m) (fun x _ => (gF_uF M nr n j t x).2)
  unfold unv
  omega
theorem grv_le (M : Mem) (nr n j t m : Nat) : grv M nr n j t m ≤ unv M nr n j t m := smN_mono (fun x _ => (gF_uF M nr n j t x).1)
def loo (M : Mem) (nr n j t : Nat) : Int32 := if unv M nr n j t 8 = 0 then 0 else if 2 ^ unv M nr n j t 8 < 20 * cntN (grv M nr n j t 8) (2 ^ unv M nr n j t 8) then 0 else 1
theorem sc_loo {M N : Mem} (h : Sc M N) (nr n j t : Nat) : loo N nr n j t = loo M nr n j t := by
  unfold loo unv grv
  rw [sc_uF h, sc_gF h]
theorem loo_or (M : Mem) (nr n j t : Nat) : loo M nr n j t = 0 ∨ loo M nr n j t = 1 := by
  unfold loo
  split
  · exact Or.inl rfl
  · split
    · exact Or.inl rfl
    · exact Or.inr rfl
theorem l_X0_loo {M N : Mem} (h : Rr M) {nr n : Nat} (hnr : nr ≤ 40) (er : M.1 11 17 = nI nr) (en : M.1 11 25 = nI n) (hn : n ≤ 100) (hs : SV M N nr n) {j t : Nat} (hj : j < 8) (ht : t < 8) (K : Int32 → Int32 → Int32 → Mem → Option Ret) : ∀ (d a k : Nat), a + d = 8 → f_X0_isLooser_L8 (nI j) (nI t) (k + (d + 1)) (nI (unv M nr n j t a)) (nI (grv M nr n j t a)) (nI a) N K = K (nI (unv M nr n j t 8)) (nI (grv M nr n j t 8)) (nI 8) N
  | 0, a, k, hh => by
    have : a = 8 := by omega
    subst this
    rw [show k + (0 + 1) = k + 1 from rfl, f_X0_isLooser_L8, if_pos le8]
  | d + 1, a, k, hh => by
    have ih := l_X0_loo h hnr er en hn hs hj ht K d (a + 1) k (by omega)
    rw [unv_s, grv_s] at ih
    rw [show k + (d + 1 + 1) = (k + (d + 1)) + 1 from rfl, f_X0_isLooser_L8, if_neg (n_le8 (by omega)), e_X0_eff h hnr er en hn hs (show a < 8 by omega) hj, bE_s, e_X0_eff h hnr er en hn hs (show a < 8 by omega) ht, bE_s]
    unfold uF gF at ih
    simp only [jn_ite]
    simp only [jn, bI, nI_1]
    by_cases c1 : ef M nr n a j = -1
    · simp only [c1, if_true, Nat.add_zero] at ih ⊢; exact ih
    · by_cases c2 : ef M nr n a t = -1
      · simp only [c1, c2, if_true, if_false, Nat.add_zero] at ih ⊢; exact ih
      · by_cases c3 : ef M nr n a j = ef M nr n a t
        · rw [if_neg c1, if_neg c2, if_pos c3]
          rw [if_neg c1, if_neg c2, if_pos c3, if_neg c1, if_neg c2, if_pos (by rw [c3]; exact i_lerf _)] at ih
          exact ih
        · by_cases c4 : ef M nr n a j ≤ ef M nr n a t
          · simp only [c1, c2, c3, c4, if_true, if_false, Nat.add_zero, i_a0] at ih ⊢; exact ih
          · simp only [c1, c2, c3, c4, if_false, nI_1] at ih ⊢; exact ih
theorem loo_fin {u g : Nat} (hu : u ≤ 8) (hg : g ≤ u) : ((1 : Int32) <<< (nI u &&& 31) < (20 : Int32) * nI (cntN g (2 ^ u))) ↔ 2 ^ u < 20 * cntN g (2 ^ u) := by
  have h1 := cntN_le g (2 ^ u)
  have hb : 2 ^ u ≤ 2 ^ 8 := Nat.pow_le_pow_right (by decide) hu
  rw [shl_n u (by omega), show (20 : Int32) = nI 20 from rfl, pk_mul, nI_ltI (by omega) (by omega)]
theorem nle0 {u : Nat} (hu : u < 2 ^ 31) : nI u ≤ 0 ↔ u = 0 := by
  rw [show (0 : Int32) = nI 0 from rfl, nI_leI hu (by decide)]
  omega
theorem e_X0_loo {M N : Mem} (h : Rr M) {nr n : Nat} (hnr : nr ≤ 40) (er : M.1 11 17 = nI nr) (en : M.1 11 25 = nI n) (hn : n ≤ 100) (hs : SV M N nr n) {j t : Nat} (hj : j < 8) (ht : t < 8) : f_X0_isLooser (nI j) (nI t) N = some (loo M nr n j t, N) := by
  obtain ⟨k, hk⟩ := FU_pos (d := 8) (by omega)
  unfold f_X0_isLooser
  rw [hk]
  refine (l_X0_loo h hnr er en hn hs hj ht _ 8 0 k (by omega)).trans ?_
  have hu := unv_le M nr n j t 8
  have hg := grv_le M nr n j t 8
  simp only [jn, e_X0_ways N hu hg, bE_s]
  unfold loo
  by_cases c : unv M nr n j t 8 = 0
  · rw [if_pos ((nle0 (by omega)).mpr c), if_pos c, gZ_0]
  · rw [if_neg (fun q => c ((nle0 (by omega)).mp q)), if_neg c]
    by_cases c2 : 2 ^ unv M nr n j t 8 < 20 * cntN (grv M nr n j t 8) (2 ^ unv M nr n j t 8)
    · rw [if_pos ((loo_fin hu hg).mpr c2), if_pos c2, gZ_0]
    · rw [if_neg (fun q => c2 ((loo_fin hu hg).mp q)), if_neg c2, gZ_1]
theorem neg_i {M : Mem} (h : Rr M) {nr n : Nat} (hnr : nr ≤ 40) (er : M.1 11 17 = nI nr) (en : M.1 11 25 = nI n) (hn : n ≤ 100) (x j : Nat) : ef M nr n x j < 0 ↔ ef M nr n x j = -1 := by
  rcases ef_or h hnr er en hn x j with q | ⟨z, hz, q⟩
  · rw [q]; decide
  · have hz2 : z < 2 ^ 31 := Nat.lt_of_le_of_lt hz (by decide)
    rw [q]
    exact ⟨fun w => absurd w (nI_pos hz2), fun w => absurd w (nI_ne_m1 hz2)⟩
theorem l_X11_loo {M : Mem} (h : Rr M) {nr n : Nat} (hnr : nr ≤ 40) (er : M.1 11 17 = nI nr) (en : M.1 11 25 = nI n) (hn : n ≤ 100) {j t : Nat} (K : Int32 → Int32 → Int32 → Mem → Option Ret) : ∀ (d a k : Nat), a + d = 8 → f_X11_isLooser_L8 (nI j) (nI t) (k + (d + 1)) (nI (unv M nr n j t a)) (nI (grv M nr n j t a)) (nI a) M K = K (nI (unv M nr n j t 8)) (nI (grv M nr n j t 8)) (nI 8) M
  | 0, a, k, hh => by
    have : a = 8 := by omega
    subst this
    rw [show k + (0 + 1) = k + 1 from rfl, f_X11_isLooser_L8, if_pos le8]
  | d + 1, a, k, hh => by
    have ih := l_X11_loo h hnr er en hn (j := j) (t := t) K d (a + 1) k (by omega)
    rw [unv_s, grv_s] at ih
    rw [show k + (d + 1 + 1) = (k + (d + 1)) + 1 from rfl, f_X11_isLooser_L8, if_neg (n_le8 (by omega)), e_X11_eff h hnr er en hn, bE_s, e_X11_eff h hnr er en hn, bE_s]
    unfold uF gF at ih
    simp only [jn, bI, nI_1, neg_i h hnr er en hn]
    by_cases c1 : ef M nr n a j = -1
    · simp only [c1, if_true, Nat.add_zero, i_a0] at ih ⊢; exact ih
    · by_cases c2 : ef M nr n a t = -1
      · simp only [c1, c2, if_true, if_false, Nat.add_zero, i_a0] at ih ⊢; exact ih
      · by_cases c3 : ef M nr n a j = ef M nr n a t
        · have c4 : ef M nr n a j ≤ ef M nr n a t := by rw [c3]; exact i_lerf _
          rw [if_neg c1, if_neg c2, if_pos c3, if_neg c1, if_neg c2, if_pos c4, i_a0, i_a0]
          rw [if_neg c1, if_neg c2, if_pos c3, if_neg c1, if_neg c2, if_pos c4] at ih
          exact ih
        · by_cases c4 : ef M nr n a j ≤ ef M nr n a t
          · simp only [c1, c2, c3, c4, if_true, if_false, Nat.add_zero, i_a0, nI_1] at ih ⊢; exact ih
          · simp only [c1, c2, c3, c4, if_false, nI_1] at ih ⊢; exact ih
theorem e_X11_loo {M : Mem} (h : Rr M) {nr n : Nat} (hnr : nr ≤ 40) (er : M.1 11 17 = nI nr) (en : M.1 11 25 = nI n) (hn : n ≤ 100) (j t : Nat) : f_X11_isLooser (nI j) (nI t) M = some (loo M nr n j t, M) := by
  have hu := unv_le M nr n j t 8
  have hg := grv_le M nr n j t 8
  have hb : 2 ^ unv M nr n j t 8 ≤ 2 ^ 8 := Nat.pow_le_pow_right (by decide) hu
  obtain ⟨k, hk⟩ := FU_pos (d := 8) (by omega)
  obtain ⟨k2, hk2⟩ := FU_pos (d := 2 ^ unv M nr n j t 8) (by omega)
  unfold f_X11_isLooser
  rw [hk]
  refine (l_X11_loo h hnr er en hn _ 8 0 k (by omega)).trans ?_
  rw [← hk, hk2]
  refine (l_X11_subs M _ _ (show unv M nr n j t 8 < 15 by omega) (show grv M nr n j t 8 ≤ 14 by omega) _ _ 0 k2 (by omega)).trans ?_
  simp only [jn]
  unfold loo
  by_cases c : unv M nr n j t 8 = 0
  · rw [if_pos ((nle0 (by omega)).mpr c), if_pos c, gZ_0]
  · rw [if_neg (fun q => c ((nle0 (by omega)).mp q)), if_neg c]
    by_cases c2 : 2 ^ unv M nr n j t 8 < 20 * cntN (grv M nr n j t 8) (2 ^ unv M nr n j t 8)
    · rw [if_pos ((loo_fin hu hg).mpr c2), if_pos c2, gZ_0]
    · rw [if_neg (fun q => c2 ((loo_fin hu hg).mp q)), if_neg c2, gZ_1]
theorem st_looser {M : Mem} (hI : Inv M) (v1 v2 : Int32) : ∃ (r : Int32) (M1 M2 : Mem), f_X10_looser v1 v2 M = some (r, M1) ∧ f_X11_looser v1 v2 M1 = some (r, M2) ∧ Inv M2 := by
  obtain ⟨nr, hnr, er, -⟩ := hI.r
  obtain ⟨n, hn, en, -⟩ := hI.w
  obtain ⟨nj, hnj, ej, -⟩ := hI.j
  by_cases h1 : hs v1 (M.1 11 12) = 0
  · exact ⟨fdv 1, fdC M 1, fdM (fdC M 1) 1, by simp only [f_X10_looser, e_X10_isWithin, e_X11_isIn, e_X1_isKind, e_X10_isRater, e_X10_isPace, e_X10_isWeek, e_X10_isWorker, e_X10_isCause, e_X11_isPace, e_X11_isWeek, e_X11_isWorker, e_X11_isElement, e_X11_isJob, bE_s, bI, bM, jn, one_ne0, e_fdC1, e_fdM1, e_fdC2, e_fdM2, e_fdC3, e_fdM3, e_fdC4, e_fdM4, e_fdC5, e_fdM5, e_X2_has hI, h1, if_true, if_false], by simp only [f_X11_looser, e_X10_isWithin, e_X11_isIn, e_X1_isKind, e_X10_isRater, e_X10_isPace, e_X10_isWeek, e_X10_isWorker, e_X10_isCause, e_X11_isPace, e_X11_isWeek, e_X11_isWorker, e_X11_isElement, e_X11_isJob, bE_s, bI, bM, jn, one_ne0, e_fdC1, e_fdM1, e_fdC2, e_fdM2, e_fdC3, e_fdM3, e_fdC4, e_fdM4, e_fdC5, e_fdM5, e_X2_has hI, h1, fdC_at (show (11 : Nat) ≠ 12 by decide), if_true, if_false], inv_fd hI 1⟩
  by_cases h2 : hs v2 (M.1 11 12) = 0
  · exact ⟨fdv 1, fdC M 1, fdM (fdC M 1) 1, by simp only [f_X10_looser, e_X10_isWithin, e_X11_isIn, e_X1_isKind, e_X10_isRater, e_X10_isPace, e_X10_isWeek, e_X10_isWorker, e_X10_isCause, e_X11_isPace, e_X11_isWeek, e_X11_isWorker, e_X11_isElement, e_X11_isJob, bE_s, bI, bM, jn, one_ne0, e_fdC1, e_fdM1, e_fdC2, e_fdM2, e_fdC3, e_fdM3, e_fdC4, e_fdM4, e_fdC5, e_fdM5, e_X2_has hI, h1, h2, if_true, if_false], by simp only [f_X11_looser, e_X10_isWithin, e_X11_isIn, e_X1_isKind, e_X10_isRater, e_X10_isPace, e_X10_isWeek, e_X10_isWorker, e_X10_isCause, e_X11_isPace, e_X11_isWeek, e_X11_isWorker, e_X11_isElement, e_X11_isJob, bE_s, bI, bM, jn, one_ne0, e_fdC1, e_fdM1, e_fdC2, e_fdM2, e_fdC3, e_fdM3, e_fdC4, e_fdM4, e_fdC5, e_fdM5, e_X2_has hI, h1, h2, fdC_at (show (11 : Nat) ≠ 12 by decide), if_true, if_false], inv_fd hI 1⟩
  by_cases h3 : v1 = v2
  · exact ⟨fdv 1, fdC M 1, fdM (fdC M 1) 1, by simp only [f_X10_looser, e_X10_isWithin, e_X11_isIn, e_X1_isKind, e_X10_isRater, e_X10_isPace, e_X10_isWeek, e_X10_isWorker, e_X10_isCause, e_X11_isPace, e_X11_isWeek, e_X11_isWorker, e_X11_isElement, e_X11_isJob, bE_s, bI, bM, jn, one_ne0, e_fdC1, e_fdM1, e_fdC2, e_fdM2, e_fdC3, e_fdM3, e_fdC4, e_fdM4, e_fdC5, e_fdM5, e_X2_has hI, h1, h2, h3, if_true, if_false], by simp only [f_X11_looser, e_X10_isWithin, e_X11_isIn, e_X1_isKind, e_X10_isRater, e_X10_isPace, e_X10_isWeek, e_X10_isWorker, e_X10_isCause, e_X11_isPace, e_X11_isWeek, e_X11_isWorker, e_X11_isElement, e_X11_isJob, bE_s, bI, bM, jn, one_ne0, e_fdC1, e_fdM1, e_fdC2, e_fdM2, e_fdC3, e_fdM3, e_fdC4, e_fdM4, e_fdC5, e_fdM5, e_X2_has hI, h1, h2, h3, fdC_at (show (11 : Nat) ≠ 12 by decide), if_true, if_false], inv_fd hI 1⟩
  have h1' := h1
  rw [ej] at h1'
  obtain ⟨j, hj, rfl⟩ := hs_nat (by omega) h1'
  have h2' := h2
  rw [ej] at h2'
  obtain ⟨t, ht, rfl⟩ := hs_nat (by omega) h2'
  obtain ⟨N, n1, n2⟩ := e_survey hI hnr er en hn
  have hIN := n2.1.inv hI
  have e11 : N.1 11 = M.1 11 := n2.1 11 (Or.inl (by decide))
  have h1N : ¬ hs (nI j) (N.1 11 12) = 0 := by rw [e11]; exact h1
  have h2N : ¬ hs (nI t) (N.1 11 12) = 0 := by rw [e11]; exact h2
  have erN : N.1 11 17 = nI nr := by rw [e11]; exact er
  have enN : N.1 11 25 = nI n := by rw [e11]; exact en
  have hlo := e_X0_loo hI.rr hnr er en hn n2 (show j < 8 by omega) (show t < 8 by omega)
  refine ⟨if loo M nr n j t = 0 then 0 else 1, N, N, ?_, ?_, hIN⟩
  · simp only [f_X10_looser, e_X2_has hI, e_X10_isWithin, e_X11_isIn, e_X1_isKind, e_X10_isRater, e_X10_isPace, e_X10_isWeek, e_X10_isWorker, e_X10_isCause, e_X11_isPace, e_X11_isWeek, e_X11_isWorker, e_X11_isElement, e_X11_isJob, bE_s, bI, bM, jn_ite, one_ne0, e_fdC1, e_fdM1, e_fdC2, e_fdM2, e_fdC3, e_fdM3, e_fdC4, e_fdM4, e_fdC5, e_fdM5, h1, h2, h3, if_false, n1, hlo]
  · simp only [f_X11_looser, e_X10_isWithin, e_X11_isIn, e_X1_isKind, e_X10_isRater, e_X10_isPace, e_X10_isWeek, e_X10_isWorker, e_X10_isCause, e_X11_isPace, e_X11_isWeek, e_X11_isWorker, e_X11_isElement, e_X11_isJob, bE_s, bI, bM, jn_ite, one_ne0, e_fdC1, e_fdM1, e_fdC2, e_fdM2, e_fdC3, e_fdM3, e_fdC4, e_fdM4, e_fdC5, e_fdM5, h1N, h2N, h3, if_false, e_X11_loo hIN.rr hnr erN enN hn j t, sc_loo n2.1]
