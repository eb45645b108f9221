/-! WHAT IS KEPT, AND THE CALL OF -/
theorem bI_e {α : Type} (e : α) (K : α → Option Ret) : bI e K = K e := rfl
def adv (x m : Int32) : Int32 := if m ≤ x then x - m else m - x
def kp (S : Nat → Int32) (m : Int32) : Nat → Nat × Int32 × Int32 × Int32
  | 0 => (0, 0, -1, -1)
  | a + 1 => if m / 4 < adv (S a) m then kp S m a else ((kp S m a).1 + 1, (kp S m a).2.1 + S a, if (kp S m a).1 = 0 then S a else (kp S m a).2.2.1, S a)
theorem kp_s (S : Nat → Int32) (m : Int32) (a : Nat) : kp S m (a + 1) = if m / 4 < adv (S a) m then kp S m a else ((kp S m a).1 + 1, (kp S m a).2.1 + S a, if (kp S m a).1 = 0 then S a else (kp S m a).2.2.1, S a) := rfl
theorem kp_inv {S : Nat → Int32} (hS : ∀ i, isN 2497 (S i)) (m : Int32) : ∀ a, (kp S m a).1 ≤ a ∧ isN (2497 * (kp S m a).1) (kp S m a).2.1 ∧ ((kp S m a).1 = 0 → (kp S m a).2.2.1 = -1) ∧ (0 < (kp S m a).1 → isN 2497 (kp S m a).2.2.1)
  | 0 => ⟨Nat.le_refl 0, isN_0 _, fun _ => rfl, fun h => absurd h (Nat.lt_irrefl 0)⟩
  | a + 1 => by
    have ih := kp_inv hS m a
    rw [kp_s]
    by_cases q : m / 4 < adv (S a) m
    · rw [if_pos q]; exact ⟨Nat.le_succ_of_le ih.1, ih.2⟩
    · rw [if_neg q]
      generalize kp S m a = g at ih ⊢
      obtain ⟨mn, su, le, mo⟩ := g
      obtain ⟨h1, h2, h3, h4⟩ := ih
      refine ⟨Nat.succ_le_succ h1, ?_, fun w => absurd w (Nat.succ_ne_zero _), fun _ => ?_⟩
      · show isN (2497 * (mn + 1)) (su + S a)
        exact isN_mono (isN_add h2 (hS a)) (by show 2497 * mn + 2497 ≤ _; omega)
      · show isN 2497 (if mn = 0 then S a else le)
        by_cases z : mn = 0
        · rw [if_pos z]; exact hS a
        · rw [if_neg z]; exact h4 (Nat.pos_of_ne_zero z)
theorem kp_pos {S : Nat → Int32} {m : Int32} (hm : isN 2497 m) {i : Nat} (hi : S i = m) : ∀ n, i < n → 0 < (kp S m n).1
  | 0, h => absurd h (Nat.not_lt_zero i)
  | n + 1, h => by
    rw [kp_s]
    by_cases q : m / 4 < adv (S n) m
    · rw [if_pos q]
      by_cases e : i = n
      · exfalso
        rw [← e, hi] at q
        obtain ⟨t, ht, rfl⟩ := hm
        unfold adv at q
        rw [if_pos (nI_le (Nat.le_refl t) (by omega)), pk_sub (Nat.le_refl t), show (4 : Int32) = nI 4 from rfl, pk_div (by omega) (by decide) (by decide), Nat.sub_self] at q
        exact nI_nlt (Nat.zero_le _) (by omega) q
      · exact kp_pos hm hi n (by omega)
    · rw [if_neg q]; exact Nat.succ_pos _
theorem ad_c {x m : Int32} (hx : isN 2497 x) (hm : isN 2497 m) : (if 0 ≤ x - m then x - m else 0 - (x - m)) = adv x m := by
  obtain ⟨s, hs, rfl⟩ := hx
  obtain ⟨t, ht, rfl⟩ := hm
  unfold adv
  by_cases q : t ≤ s
  · rw [pk_sub q, if_pos (nI_pos' (by omega)), if_pos (nI_le q (by omega))]
  · have h1 : ¬ 0 ≤ nI s - nI t := fun w => by
      have := pk_sneg (a := s) (b := t) (by omega) (by omega)
      rw [i_lt] at this
      rw [i_le] at w
      omega
    rw [if_neg h1, if_neg (nI_ge (by omega) (by omega)), Int32.zero_sub, Int32.neg_sub]
theorem l_keepC {S : Nat → Int32} (hS : ∀ i, isN 2497 (S i)) {m : Int32} (hm : isN 2497 m) {n : Nat} (hn : n ≤ 60) (d : Nat) : ∀ (a k : Nat) (N : Mem), a + d = n → N.1 2 10 = nI n → (∀ i, i < n → N.1 21 i = S i) → N.1 2 11 = nI (kp S m a).1 → (0 < (kp S m a).1 → N.1 2 14 = (kp S m a).2.2.1 ∧ N.1 2 15 = (kp S m a).2.2.2) → ∃ N' : Mem, (∀ K : Int32 → Int32 → Mem → Option Ret, f_X8_keepNormals_L34 m (k + (d + 1)) (kp S m a).2.1 (nI a) N K = K (kp S m n).2.1 (nI n) N') ∧ (∀ q, q ≠ 2 → N'.1 q = N.1 q) ∧ (∀ s, s < 11 → N'.1 2 s = N.1 2 s) ∧ N'.1 2 11 = nI (kp S m n).1 ∧ (0 < (kp S m n).1 → N'.1 2 14 = (kp S m n).2.2.1 ∧ N'.1 2 15 = (kp S m n).2.2.2) := by
  induction d with
  | zero =>
    intro a k N hh e10 e21 h11 h14
    have : a = n := by omega
    subst this
    refine ⟨N, fun K => ?_, fun _ _ => rfl, fun _ _ => rfl, h11, h14⟩
    rw [show k + (0 + 1) = k + 1 from rfl, f_X8_keepNormals_L34, e10, if_pos (nI_le (Nat.le_refl a) (by omega))]
  | succ d ih =>
    intro a k N hh e10 e21 h11 h14
    have hb := (kp_inv hS m a).1
    have ks := kp_s S m a
    have ih := ih (a + 1) k
    have hun : ∀ (su : Int32) (K : Int32 → Int32 → Mem → Option Ret), f_X8_keepNormals_L34 m (k + (d + 1) + 1) su (nI a) N K = if m / 4 < adv (S a) m then f_X8_keepNormals_L34 m (k + (d + 1)) su (nI (a + 1)) N K else f_X8_keepNormals_L34 m (k + (d + 1)) (su + S a) (nI (a + 1)) (up2 (up2 (up2 N 2 14 (if N.1 2 11 = 0 then S a else N.1 2 14)) 2 15 (S a)) 2 11 (N.1 2 11 + 1)) K := by
      intro su K
      have g60 : ∀ z : Option Ret, gV (nI a) 60 z = z := fun z => gV_nI (by omega) (by decide)
      rw [f_X8_keepNormals_L34, e10, if_neg (nI_ge (show a < n by omega) (by omega)), g60, nI_clamp (show a < 2 ^ 31 by omega), e21 a (by omega), ad_c (hS a) hm]
      simp only [jn, bM, bI, g60, up2_ne (show (21 : Nat) ≠ 2 by decide), e21 a (show a < n by omega), up2_same, upd_n (show (11 : Nat) ≠ 15 by decide), upd_n (show (11 : Nat) ≠ 14 by decide), nI_1]
      by_cases z : N.1 2 11 = 0
      · simp only [z, if_true]
      · simp only [z, if_false]
    generalize kp S m a = g at ks h11 h14 hb ⊢
    obtain ⟨mn, su, le, mo⟩ := g
    have h11 : N.1 2 11 = nI mn := h11
    have h14 : 0 < mn → N.1 2 14 = le ∧ N.1 2 15 = mo := h14
    have hb : mn ≤ a := hb
    by_cases q : m / 4 < adv (S a) m
    · have ks := ks.trans (if_pos q)
      obtain ⟨N', n1, n2, n3, n4, n5⟩ := ih N (by omega) e10 e21 (by rw [ks]; exact h11) (by rw [ks]; exact h14)
      refine ⟨N', fun K => ?_, n2, n3, n4, n5⟩
      have n1 := n1 K
      rw [ks] at n1
      rw [show k + (d + 1 + 1) = (k + (d + 1)) + 1 from rfl]
      refine (hun su K).trans ?_
      rw [if_pos q]
      exact n1
    · have ks := ks.trans (if_neg q)
      have hz : (if N.1 2 11 = 0 then S a else N.1 2 14) = if mn = 0 then S a else le := by
        by_cases z : mn = 0
        · rw [if_pos z, h11, z, if_pos (show nI 0 = 0 from rfl)]
        · rw [if_neg z, h11, if_neg (nI_ne0 (by omega) (by omega)), (h14 (by omega)).1]
      obtain ⟨N', n1, n2, n3, n4, n5⟩ := ih (up2 (up2 (up2 N 2 14 (if N.1 2 11 = 0 then S a else N.1 2 14)) 2 15 (S a)) 2 11 (N.1 2 11 + 1)) (by omega) (by rw [up2_same, upd_n (by decide), up2_same, upd_n (by decide), up2_same, upd_n (by decide)]; exact e10) (fun i hi => by rw [up2_ne (by decide), up2_ne (by decide), up2_ne (by decide)]; exact e21 i hi) (by rw [ks, up2_same, upd_s, h11, nI_1]) (fun _ => by
        rw [ks, up2_same, upd_n (by decide), upd_n (by decide), up2_same, upd_n (by decide), upd_s, up2_same, upd_s]
        exact ⟨hz, rfl⟩)
      refine ⟨N', fun K => ?_, fun r hr => (n2 r hr).trans (by rw [up2_ne hr, up2_ne hr, up2_ne hr]), fun s hs => (n3 s hs).trans (by rw [up2_same, upd_n (by omega), up2_same, upd_n (by omega), up2_same, upd_n (by omega)]), n4, n5⟩
      have n1 := n1 K
      rw [ks] at n1
      rw [show k + (d + 1 + 1) = (k + (d + 1)) + 1 from rfl]
      refine (hun su K).trans ?_
      rw [if_neg q]
      exact n1
def lvK (g : Nat × Int32 × Int32 × Int32) : Int32 := if g.1 = 0 then 0 else g.2.1 / nI g.1
theorem e_keepR {S : Nat → Int32} (hS : ∀ i, isN 2497 (S i)) {m : Int32} (hm : isN 2497 m) {n : Nat} (hn : n ≤ 60) {N : Mem} (e10 : N.1 2 10 = nI n) (e21 : ∀ i, i < n → N.1 21 i = S i) : ∃ N' : Mem, bM (up2 N 2 11 (0 : Int32)) (fun M3 => f_X8_keepNormals_L34 m FU (0 : Int32) (0 : Int32) M3 (fun w13 w14 M15 => jn (α := Int32 → Option Ret) (fun (z17 : Int32) => bM (up2 M15 2 12 z17) (fun M18 => some (0, M18))) (fun J16 => if (M15.1 2 11) = 0 then (J16 (0 : Int32)) else (gN (M15.1 2 11) (J16 (w13 / (M15.1 2 11))))))) = some (0, N') ∧ (∀ q, q ≠ 2 → N'.1 q = N.1 q) ∧ (∀ s, s < 11 → N'.1 2 s = N.1 2 s) ∧ N'.1 2 11 = nI (kp S m n).1 ∧ N'.1 2 12 = lvK (kp S m n) ∧ (0 < (kp S m n).1 → N'.1 2 14 = (kp S m n).2.2.1 ∧ N'.1 2 15 = (kp S m n).2.2.2) := by
  obtain ⟨k, hk⟩ := FU_pos (d := n) (by omega)
  obtain ⟨N1, a1, a2, a3, a4, a5⟩ := l_keepC hS hm hn n 0 k (up2 N 2 11 0) (by omega) (by rw [up2_same, upd_n (by decide)]; exact e10) (fun i hi => by rw [up2_ne (by decide)]; exact e21 i hi) (by rw [up2_same, upd_s]; rfl) (fun h => absurd h (Nat.lt_irrefl 0))
  rw [← hk, show nI 0 = 0 from rfl, show (kp S m 0).2.1 = 0 from rfl] at a1
  have hb := (kp_inv hS m n).1
  refine ⟨up2 N1 2 12 (lvK (kp S m n)), ?_, fun q hq => ?_, fun s hs => ?_, ?_, ?_, fun h => ?_⟩
  · rw [bM_e, a1, jn_e, a4]
    unfold lvK
    by_cases z : (kp S m n).1 = 0
    · rw [if_pos z, if_pos (show nI (kp S m n).1 = 0 by rw [z]; rfl)]
      rfl
    · rw [if_neg z, if_neg (nI_ne0 (by omega) (by omega)), gN_n (nI_ne0 (by omega) (by omega))]
      rfl
  · rw [up2_ne hq, a2 q hq, up2_ne hq]
  · rw [up2_same, upd_n (by omega), a3 s hs, up2_same, upd_n (by omega)]
  · rw [up2_same, upd_n (by decide), a4]
  · rw [up2_same, upd_s]
  · rw [up2_same, upd_n (by decide), upd_n (by decide)]
    exact a5 h
def mdK (S : Nat → Int32) (n : Nat) : Int32 := if n = 0 then 0 else S ((n - 1) / 2)
theorem mdK_N {S : Nat → Int32} (hS : ∀ i, isN 2497 (S i)) (n : Nat) : isN 2497 (mdK S n) := by
  unfold mdK
  split
  · exact isN_0 _
  · exact hS _
theorem half_e {n : Nat} (h0 : 0 < n) (hn : n ≤ 60) : (nI n - 1) / 2 = nI ((n - 1) / 2) := by
  rw [show (1 : Int32) = nI 1 from rfl, pk_sub (by omega), show (2 : Int32) = nI 2 from rfl, pk_div (by omega) (by decide) (by decide)]
theorem e_keepC {S : Nat → Int32} (hS : ∀ i, isN 2497 (S i)) {n : Nat} (hn : n ≤ 60) {N : Mem} (e10 : N.1 2 10 = nI n) (e21 : ∀ i, i < n → N.1 21 i = S i) : ∃ N' : Mem, f_X8_keepNormals N = some (0, N') ∧ (∀ q, q ≠ 2 → N'.1 q = N.1 q) ∧ (∀ s, s < 11 → N'.1 2 s = N.1 2 s) ∧ N'.1 2 11 = nI (kp S (mdK S n) n).1 ∧ N'.1 2 12 = lvK (kp S (mdK S n) n) ∧ (0 < (kp S (mdK S n) n).1 → N'.1 2 14 = (kp S (mdK S n) n).2.2.1 ∧ N'.1 2 15 = (kp S (mdK S n) n).2.2.2) := by
  obtain ⟨N', n1, n2⟩ := e_keepR hS (mdK_N hS n) hn e10 e21
  refine ⟨N', ?_, n2⟩
  refine Eq.trans ?_ n1
  unfold f_X8_keepNormals mdK
  rw [jn_e, e10]
  by_cases z : n = 0
  · rw [if_pos z, if_pos (show nI n = 0 by rw [z]; rfl)]
  · rw [if_neg z, if_neg (nI_ne0 (by omega) (by omega)), half_e (by omega) hn, gV_nI (show (n - 1) / 2 < 60 by omega) (by decide), nI_clamp (show (n - 1) / 2 < 2 ^ 31 by omega), e21 _ (by omega)]
def Sv (M : Mem) (nf nc : Nat) (e : Int32) : Nat → Int32 := srt (M.1 69) (nrv M nf) e (fun _ => 0) nc
def Kv (M : Mem) (nf nc : Nat) (e : Int32) : Nat × Int32 × Int32 × Int32 := kp (Sv M nf nc e) (mdK (Sv M nf nc e) (cnE (M.1 69) e nc)) (cnE (M.1 69) e nc)
def hdv (M : Mem) (nf nc x : Nat) : Int32 := lvK (Kv M nf nc (nI x)) * (100 + alw (M.1 66 x) (M.1 11 2) (M.1 11 3))
def sdv (M : Mem) (nf nc x : Nat) : Int32 := hdv M nf nc x / 100 + if hdv M nf nc x - hdv M nf nc x / 100 * 100 = 0 then 0 else 1
theorem Wc.KvE {M N : Mem} (e : Wc M N) (nf nc : Nat) (v : Int32) : Kv N nf nc v = Kv M nf nc v := by
  unfold Kv Sv
  rw [e.nrvE, e.hi (q := 69) (by decide) (by decide)]
theorem Wc.sdvE {M N : Mem} (e : Wc M N) (nf nc x : Nat) : sdv N nf nc x = sdv M nf nc x := by
  unfold sdv hdv
  rw [e.KvE, e.c11, e.hi (q := 66) (by decide) (by decide)]
theorem Sv_N {M : Mem} (h : Ww M) {nf nc : Nat} (hnf : nf ≤ 20) (ef : M.1 11 4 = nI nf) (hnc : nc ≤ 60) (ec : M.1 11 7 = nI nc) (e : Int32) : ∀ i, isN 2497 (Sv M nf nc e i) :=
  srt_P (P := fun x => isN 2497 x) (fun _ => isN_0 _) nc (fun c hc => nrv_N h hnf ef hnc ec hc)
theorem lvK_N {S : Nat → Int32} (hS : ∀ i, isN 2497 (S i)) (m : Int32) {n : Nat} (hn : n ≤ 60) : isN 2497 (lvK (kp S m n)) := by
  obtain ⟨h1, ⟨s, hs, es⟩, -⟩ := kp_inv hS m n
  unfold lvK
  by_cases z : (kp S m n).1 = 0
  · rw [if_pos z]; exact isN_0 _
  · rw [if_neg z, es]
    have hk : 2497 * (kp S m n).1 ≤ 2497 * 60 := Nat.mul_le_mul_left _ (by omega)
    rw [pk_div (by omega) (by omega) (by omega)]
    refine ⟨_, Nat.div_le_of_le_mul ?_, rfl⟩
    rw [Nat.mul_comm]; exact hs
theorem hdv_N {M : Mem} (h : Ww M) {nf nc : Nat} (hnf : nf ≤ 20) (ef : M.1 11 4 = nI nf) (hnc : nc ≤ 60) (ec : M.1 11 7 = nI nc) (x : Nat) : isN 749100 (hdv M nf nc x) := by
  have hcl := cnE_le (M.1 69) (nI x) nc
  exact isN_mono (isN_mul (lvK_N (Sv_N h hnf ef hnc ec (nI x)) _ (by omega)) (isN_add (A := 100) ⟨100, by decide, rfl⟩ (alw_N h x))) (by decide)
theorem sdv_N {M : Mem} (h : Ww M) {nf nc : Nat} (hnf : nf ≤ 20) (ef : M.1 11 4 = nI nf) (hnc : nc ≤ 60) (ec : M.1 11 7 = nI nc) (x : Nat) : isN 8000 (sdv M nf nc x) := by
  have h1 := hdv_N h hnf ef hnc ec x
  unfold sdv
  refine isN_mono (isN_add (isN_div h1 (by decide) (d := 100) (by decide) (by decide)) (B := 1) ?_) (by decide)
  split
  · exact isN_0 _
  · exact ⟨1, by decide, rfl⟩
theorem sdv_m {M : Mem} (h : Ww M) {nf nc : Nat} (hnf : nf ≤ 20) (ef : M.1 11 4 = nI nf) (hnc : nc ≤ 60) (ec : M.1 11 7 = nI nc) (x : Nat) : (hdv M nf nc x / 100 + if hdv M nf nc x - hdv M nf nc x / 100 * 100 ≤ 0 then 0 else 1) = sdv M nf nc x := by
  obtain ⟨t, ht, et⟩ := hdv_N h hnf ef hnc ec x
  unfold sdv
  rw [et, show (100 : Int32) = nI 100 from rfl, pk_rem (by omega) (by decide) (by decide)]
  by_cases z : t % 100 = 0
  · rw [z, if_pos (show nI 0 ≤ 0 by decide), if_pos (show nI 0 = 0 from rfl)]
  · rw [if_neg (nI_nle (by omega) (by omega)), if_neg (nI_ne0 (by omega) (by omega))]
theorem e_study {M : Mem} (h : Ww M) {nf nc : Nat} (hnf : nf ≤ 20) (ef : M.1 11 4 = nI nf) (hnc : nc ≤ 60) (ec : M.1 11 7 = nI nc) {x : Nat} (hx : x < 12) : ∃ N : Mem, f_X8_study (nI x) M = some (0, N) ∧ Sy M N ∧ N.1 2 10 = nI (cnE (M.1 69) (nI x) nc) ∧ N.1 2 11 = nI (Kv M nf nc (nI x)).1 ∧ N.1 2 12 = lvK (Kv M nf nc (nI x)) ∧ N.1 2 13 = sdv M nf nc x ∧ (0 < (Kv M nf nc (nI x)).1 → N.1 2 14 = (Kv M nf nc (nI x)).2.2.1 ∧ N.1 2 15 = (Kv M nf nc (nI x)).2.2.2) := by
  obtain ⟨N1, a1, a2, a3, a4⟩ := e_gatC h hnf ef hnc ec (nI x)
  have hcl := cnE_le (M.1 69) (nI x) nc
  obtain ⟨N2, b1, b2, b3, b4, b5, b6⟩ := e_keepC (Sv_N h hnf ef hnc ec (nI x)) (n := cnE (M.1 69) (nI x) nc) (by omega) a3 (fun i hi => by rw [a4]; exact srt_congr _ _ _ _ _ nc i hi)
  have hs2 : Sy M N2 := ⟨fun q h1 h2 => (b2 q h1).trans (a2.1 q h1 h2), fun s hs => (b3 s (by omega)).trans (a2.2 s hs)⟩
  have hal := q_allowanceOf (hs2.wc.ww h) hx
  rw [hs2.wc.c11, hs2.wc.hi (q := 66) (by decide) (by decide)] at hal
  have b4 : N2.1 2 11 = nI (Kv M nf nc (nI x)).1 := b4
  have b5 : N2.1 2 12 = lvK (Kv M nf nc (nI x)) := b5
  refine ⟨up2 N2 2 13 (sdv M nf nc x), ?_, ⟨fun q h1 h2 => (up2_ne h1).trans (hs2.1 q h1 h2), fun s hs => by rw [up2_same, upd_n (by omega)]; exact hs2.2 s hs⟩, ?_, ?_, ?_, ?_, fun w => ?_⟩
  · unfold f_X8_study
    rw [a1, bE_s, b1, bE_s, hal, bE_s, bI_e, jn_ite, b5]
    rfl
  · rw [up2_same, upd_n (by decide), b3 10 (by decide), a3]
  · rw [up2_same, upd_n (by decide), b4]
  · rw [up2_same, upd_n (by decide), b5]
  · rw [up2_same, upd_s]
  · rw [up2_same, upd_n (by decide), upd_n (by decide)]
    exact b6 w
theorem l_cycM {N : Mem} {nc : Nat} (hnc : nc ≤ 60) (ec : N.1 11 7 = nI nc) (e : Int32) (K : Int32 → Int32 → Mem → Option Ret) : ∀ (d a k : Nat), a + d = nc → f_X11_cyclesOf_L4 e (k + (d + 1)) (nI (cnE (N.1 69) e a)) (nI a) N K = K (nI (cnE (N.1 69) e nc)) (nI nc) N
  | 0, a, k, hh => by
    have : a = nc := by omega
    subst this
    rw [show k + (0 + 1) = k + 1 from rfl, f_X11_cyclesOf_L4, ec, if_pos (nI_le (Nat.le_refl a) (by omega))]
  | d + 1, a, k, hh => by
    have ih := l_cycM hnc ec e K d (a + 1) k (by omega)
    rw [cnE_s, ← nI_add] at ih
    rw [show k + (d + 1 + 1) = (k + (d + 1)) + 1 from rfl, f_X11_cyclesOf_L4, ec, if_neg (nI_ge (show a < nc by omega) (by omega)), gV_nI (show a < 60 by omega) (by decide), nI_clamp (show a < 2 ^ 31 by omega), jn_ite, bI_e, nI_1 a]
    by_cases q : N.1 69 a = e
    · rw [if_pos q] at ih ⊢; exact ih
    · rw [if_neg q] at ih ⊢; exact ih
theorem e_cycM {N : Mem} {nc : Nat} (hnc : nc ≤ 60) (ec : N.1 11 7 = nI nc) (e : Int32) : f_X11_cyclesOf e N = some (nI (cnE (N.1 69) e nc), N) := by
  obtain ⟨k, hk⟩ := FU_pos (d := nc) (by omega)
  have l := fun K => l_cycM hnc ec e K nc 0 k (by omega)
  rw [← hk, show nI (cnE (N.1 69) e 0) = 0 from rfl, show nI 0 = 0 from rfl] at l
  unfold f_X11_cyclesOf
  rw [l]
theorem l_keepM {S : Nat → Int32} (hS : ∀ i, isN 2497 (S i)) (m : Int32) {n : Nat} (hn : n ≤ 60) {N : Mem} (e96 : ∀ i, i < n → N.1 96 i = S i) (e v2 : Int32) (K : Int32 → Int32 → Int32 → Int32 → Int32 → Mem → Option Ret) : ∀ (d a k : Nat), a + d = n → f_X11_keptOf_L122 e v2 (nI n) m (k + (d + 1)) (nI (kp S m a).1) (kp S m a).2.1 (kp S m a).2.2.1 (kp S m a).2.2.2 (nI a) N K = K (nI (kp S m n).1) (kp S m n).2.1 (kp S m n).2.2.1 (kp S m n).2.2.2 (nI n) N
  | 0, a, k, hh => by
    have : a = n := by omega
    subst this
    rw [show k + (0 + 1) = k + 1 from rfl, f_X11_keptOf_L122, if_pos (nI_le (Nat.le_refl a) (by omega))]
  | d + 1, a, k, hh => by
    have ih := l_keepM hS m hn e96 e v2 K d (a + 1) k (by omega)
    have hv := kp_inv hS m a
    have g60 : ∀ z : Option Ret, gV (nI a) 60 z = z := fun z => gV_nI (by omega) (by decide)
    have hun : ∀ mn su le mo : Int32, f_X11_keptOf_L122 e v2 (nI n) m (k + (d + 1) + 1) mn su le mo (nI a) N K = if m / 4 < adv (S a) m then f_X11_keptOf_L122 e v2 (nI n) m (k + (d + 1)) mn su le mo (nI (a + 1)) N K else f_X11_keptOf_L122 e v2 (nI n) m (k + (d + 1)) (mn + 1) (su + S a) (if 0 ≤ le then le else S a) (S a) (nI (a + 1)) N K := by
      intro mn su le mo
      rw [f_X11_keptOf_L122, if_neg (nI_ge (show a < n by omega) (by omega)), g60, nI_clamp (show a < 2 ^ 31 by omega)]
      simp only [jn, bI, g60, e96 a (show a < n by omega), nI_1]
      unfold adv
      by_cases c : m ≤ S a
      · simp only [c, if_true]
        by_cases c2 : 0 ≤ le
        · simp only [c2, if_true]
        · simp only [c2, if_false]
      · simp only [c, if_false]
        by_cases c2 : 0 ≤ le
        · simp only [c2, if_true]
        · simp only [c2, if_false]
    rw [kp_s] at ih
    generalize kp S m a = g at ih hv ⊢
    obtain ⟨mn, su, le, mo⟩ := g
    obtain ⟨h1, h2, h3, h4⟩ := hv
    have h1 : mn ≤ a := h1
    have h3 : mn = 0 → le = -1 := h3
    have h4 : 0 < mn → isN 2497 le := h4
    rw [show k + (d + 1 + 1) = (k + (d + 1)) + 1 from rfl]
    refine (hun (nI mn) su le mo).trans ?_
    by_cases q : m / 4 < adv (S a) m
    · rw [if_pos q] at ih ⊢
      exact ih
    · rw [if_neg q] at ih ⊢
      have hz : (if 0 ≤ le then le else S a) = if mn = 0 then S a else le := by
        by_cases z : mn = 0
        · rw [if_pos z, h3 z, if_neg m1_nge]
        · obtain ⟨t, ht, et⟩ := h4 (by omega)
          rw [if_neg z, et, if_pos (nI_pos' (by omega))]
      rw [hz, nI_1]
      exact ih
theorem Kv_pos {M : Mem} (h : Ww M) {nf nc : Nat} (hnf : nf ≤ 20) (ef : M.1 11 4 = nI nf) (hnc : nc ≤ 60) (ec : M.1 11 7 = nI nc) {e : Int32} (hc : 0 < cnE (M.1 69) e nc) : 0 < (Kv M nf nc e).1 := by
  have hS := Sv_N h hnf ef hnc ec e
  refine kp_pos (mdK_N hS _) (i := (cnE (M.1 69) e nc - 1) / 2) ?_ _ (by omega)
  unfold mdK
  rw [if_neg (by omega)]
theorem e_keptOf {M : Mem} (h : Ww M) {nf nc : Nat} (hnf : nf ≤ 20) (ef : M.1 11 4 = nI nf) (hnc : nc ≤ 60) (ec : M.1 11 7 = nI nc) {e : Int32} (hc : 0 < cnE (M.1 69) e nc) (v2 : Int32) : ∃ N : Mem, f_X11_keptOf e v2 M = some (if v2 = 2 then nI (Kv M nf nc e).1 else if v2 = 3 then lvK (Kv M nf nc e) else if v2 = 5 then (Kv M nf nc e).2.2.1 else (Kv M nf nc e).2.2.2, N) ∧ (∀ q, q ≠ 96 → N.1 q = M.1 q) := by
  obtain ⟨k, hk⟩ := FU_pos (d := nc) (by omega)
  have hcl := cnE_le (M.1 69) e nc
  obtain ⟨N, a1, a2, a3⟩ := l_gatM hnf ef hnc ec e v2 (M.1 96) nc 0 k M (by omega) (fun _ _ => rfl) rfl
  rw [← hk, show nI (cnE (M.1 69) e 0) = 0 from rfl, show nI 0 = 0 from rfl] at a1
  have hS := Sv_N h hnf ef hnc ec e
  have hp := Kv_pos h hnf ef hnc ec hc
  have e96 : ∀ i, i < cnE (M.1 69) e nc → N.1 96 i = Sv M nf nc e i := fun i hi => by rw [a3]; exact srt_congr _ _ _ _ _ nc i hi
  obtain ⟨k2, hk2⟩ := FU_pos (d := cnE (M.1 69) e nc) (by omega)
  have l := fun K => l_keepM hS (mdK (Sv M nf nc e) (cnE (M.1 69) e nc)) (show cnE (M.1 69) e nc ≤ 60 by omega) e96 e v2 K (cnE (M.1 69) e nc) 0 k2 (by omega)
  rw [← hk2, show nI (kp (Sv M nf nc e) (mdK (Sv M nf nc e) (cnE (M.1 69) e nc)) 0).1 = 0 from rfl, show (kp (Sv M nf nc e) (mdK (Sv M nf nc e) (cnE (M.1 69) e nc)) 0).2.1 = 0 from rfl, show (kp (Sv M nf nc e) (mdK (Sv M nf nc e) (cnE (M.1 69) e nc)) 0).2.2.1 = -1 from rfl, show (kp (Sv M nf nc e) (mdK (Sv M nf nc e) (cnE (M.1 69) e nc)) 0).2.2.2 = -1 from rfl, show nI 0 = 0 from rfl, show kp (Sv M nf nc e) (mdK (Sv M nf nc e) (cnE (M.1 69) e nc)) (cnE (M.1 69) e nc) = Kv M nf nc e from rfl] at l
  have hm : mdK (Sv M nf nc e) (cnE (M.1 69) e nc) = Sv M nf nc e ((cnE (M.1 69) e nc - 1) / 2) := if_neg (by omega)
  rw [hm] at l
  have hkle : (Kv M nf nc e).1 ≤ cnE (M.1 69) e nc := (kp_inv hS _ _).1
  have hne : ¬ nI (Kv M nf nc e).1 = 0 := nI_ne0 hp (by omega)
  refine ⟨N, ?_, a2⟩
  unfold f_X11_keptOf
  rw [a1, half_e hc (by omega), gV_nI (show (cnE (M.1 69) e nc - 1) / 2 < 60 by omega) (by decide), nI_clamp (show (cnE (M.1 69) e nc - 1) / 2 < 2 ^ 31 by omega), bI_e, e96 _ (by omega), l, jn_e]
  unfold lvK
  rw [if_neg (show ¬ (Kv M nf nc e).1 = 0 by omega), gN_n hne]
  by_cases c1 : v2 = 2
  · rw [if_pos c1, if_pos c1]
  · rw [if_neg c1, if_neg c1]
    by_cases c2 : v2 = 3
    · rw [if_pos c2, if_pos c2]
    · rw [if_neg c2, if_neg c2]
      by_cases c3 : v2 = 5
      · rw [if_pos c3, if_pos c3]
      · rw [if_neg c3, if_neg c3]
theorem e_standardOf {M : Mem} (h : Ww M) {nf nc : Nat} (hnf : nf ≤ 20) (ef : M.1 11 4 = nI nf) (hnc : nc ≤ 60) (ec : M.1 11 7 = nI nc) {x : Nat} (hx : x < 12) (hc : 0 < cnE (M.1 69) (nI x) nc) : ∃ N : Mem, f_X11_standardOf (nI x) M = some (sdv M nf nc x, N) ∧ (∀ q, q ≠ 96 → N.1 q = M.1 q) := by
  obtain ⟨N, n1, n2⟩ := e_keptOf h hnf ef hnc ec hc 3
  rw [if_neg (show ¬ (3 : Int32) = 2 by decide), if_pos rfl] at n1
  refine ⟨N, ?_, n2⟩
  unfold f_X11_standardOf
  rw [n1, bE_s, e_X11_allowanceOf N hx, bE_s, n2 66 (by decide), n2 11 (by decide), bI_e, jn_ite]
  show some (hdv M nf nc x / 100 + (if hdv M nf nc x - hdv M nf nc x / 100 * 100 ≤ 0 then 0 else 1), N) = _
  rw [sdv_m h hnf ef hnc ec x]
theorem eqv_of {M N : Mem} (h : ∀ q, q ≠ 2 → q ≠ 21 → q ≠ 96 → N.1 q = M.1 q) (h2 : ∀ s, s < 10 → N.1 2 s = M.1 2 s) : Eqv M N := ⟨h 12 (by decide) (by decide) (by decide), h 13 (by decide) (by decide) (by decide), h 14 (by decide) (by decide) (by decide), h 15 (by decide) (by decide) (by decide), h 16 (by decide) (by decide) (by decide), h 17 (by decide) (by decide) (by decide), h 18 (by decide) (by decide) (by decide), h 19 (by decide) (by decide) (by decide), h 20 (by decide) (by decide) (by decide), h 22 (by decide) (by decide) (by decide), h 23 (by decide) (by decide) (by decide), h 24 (by decide) (by decide) (by decide), h 25 (by decide) (by decide) (by decide), h 26 (by decide) (by decide) (by decide), h 27 (by decide) (by decide) (by decide), h 28 (by decide) (by decide) (by decide), h 29 (by decide) (by decide) (by decide), h 30 (by decide) (by decide) (by decide), h 32 (by decide) (by decide) (by decide), h 33 (by decide) (by decide) (by decide), h 34 (by decide) (by decide) (by decide), h 35 (by decide) (by decide) (by decide), h 36 (by decide) (by decide) (by decide), h 37 (by decide) (by decide) (by decide), h 38 (by decide) (by decide) (by decide), h 39 (by decide) (by decide) (by decide), h 40 (by decide) (by decide) (by decide), h 41 (by decide) (by decide) (by decide), h 42 (by decide) (by decide) (by decide), h 43 (by decide) (by decide) (by decide), h 44 (by decide) (by decide) (by decide), h 66 (by decide) (by decide) (by decide), h 67 (by decide) (by decide) (by decide), h 68 (by decide) (by decide) (by decide), h 69 (by decide) (by decide) (by decide), h 70 (by decide) (by decide) (by decide), h 71 (by decide) (by decide) (by decide), h 72 (by decide) (by decide) (by decide), h 73 (by decide) (by decide) (by decide), h 74 (by decide) (by decide) (by decide), h 75 (by decide) (by decide) (by decide), h 76 (by decide) (by decide) (by decide), h 77 (by decide) (by decide) (by decide), h 78 (by decide) (by decide) (by decide), h 79 (by decide) (by decide) (by decide), h 80 (by decide) (by decide) (by decide), h 81 (by decide) (by decide) (by decide), h 82 (by decide) (by decide) (by decide), h 83 (by decide) (by decide) (by decide), h 84 (by decide) (by decide) (by decide), h 85 (by decide) (by decide) (by decide), h 86 (by decide) (by decide) (by decide), h 87 (by decide) (by decide) (by decide), h 88 (by decide) (by decide) (by decide), h 89 (by decide) (by decide) (by decide), h 90 (by decide) (by decide) (by decide), h 91 (by decide) (by decide) (by decide), h 92 (by decide) (by decide) (by decide), h 93 (by decide) (by decide) (by decide), h 94 (by decide) (by decide) (by decide), h 95 (by decide) (by decide) (by decide), congrFun (h 0 (by decide) (by decide) (by decide)) 12, congrFun (h 0 (by decide) (by decide) (by decide)) 13, congrFun (h 1 (by decide) (by decide) (by decide)) 1, congrFun (h 1 (by decide) (by decide) (by decide)) 2, congrFun (h 1 (by decide) (by decide) (by decide)) 3, h2 3 (by decide), h2 8 (by decide), congrFun (h 3 (by decide) (by decide) (by decide)) 4, congrFun (h 4 (by decide) (by decide) (by decide)) 6, congrFun (h 5 (by decide) (by decide) (by decide)) 3, congrFun (h 6 (by decide) (by decide) (by decide)) 10, congrFun (h 7 (by decide) (by decide) (by decide)) 4, congrFun (h 11 (by decide) (by decide) (by decide)) 0, congrFun (h 11 (by decide) (by decide) (by decide)) 2, congrFun (h 11 (by decide) (by decide) (by decide)) 3, congrFun (h 11 (by decide) (by decide) (by decide)) 4, congrFun (h 11 (by decide) (by decide) (by decide)) 7, congrFun (h 11 (by decide) (by decide) (by decide)) 12, congrFun (h 11 (by decide) (by decide) (by decide)) 17, congrFun (h 11 (by decide) (by decide) (by decide)) 21, congrFun (h 11 (by decide) (by decide) (by decide)) 24, congrFun (h 11 (by decide) (by decide) (by decide)) 25, congrFun (h 11 (by decide) (by decide) (by decide)) 33, congrFun (h 11 (by decide) (by decide) (by decide)) 39⟩
theorem st_of {M : Mem} (hI : Inv M) (v1 v2 : Int32) : ∃ (r : Int32) (M1 M2 : Mem), f_X10_of v1 v2 M = some (r, M1) ∧ f_X11_of v1 v2 M1 = some (r, M2) ∧ Inv M2 := by
  obtain ⟨nf, hnf, ef, -⟩ := hI.f
  obtain ⟨nc, hnc, ec, -⟩ := hI.c
  obtain ⟨ne, hne, ee⟩ := hI.e.1
  by_cases h1 : hs v1 (M.1 11 0) = 0
  · exact ⟨fdv 1, fdC M 1, fdM (fdC M 1) 1, by simp only [f_X10_of, e_X10_isWithin, e_X11_isIn, e_X1_isKind, e_X10_isRater, e_X10_isPace, e_X10_isWeek, e_X10_isWorker, e_X10_isCause, e_X11_isPace, e_X11_isWeek, e_X11_isWorker, e_X11_isElement, e_X11_isJob, bE_s, bI, bM, jn, one_ne0, e_fdC1, e_fdM1, e_fdC2, e_fdM2, e_fdC3, e_fdM3, e_fdC4, e_fdM4, e_fdC5, e_fdM5, e_X1_has hI, h1, if_true, if_false], by simp only [f_X11_of, e_X10_isWithin, e_X11_isIn, e_X1_isKind, e_X10_isRater, e_X10_isPace, e_X10_isWeek, e_X10_isWorker, e_X10_isCause, e_X11_isPace, e_X11_isWeek, e_X11_isWorker, e_X11_isElement, e_X11_isJob, bE_s, bI, bM, jn, one_ne0, e_fdC1, e_fdM1, e_fdC2, e_fdM2, e_fdC3, e_fdM3, e_fdC4, e_fdM4, e_fdC5, e_fdM5, h1, fdC_at (show (11 : Nat) ≠ 12 by decide), if_true, if_false], inv_fd hI 1⟩
  by_cases h2 : wi v2 0 6 = 0
  · exact ⟨fdv 1, fdC M 1, fdM (fdC M 1) 1, by simp only [f_X10_of, e_X10_isWithin, e_X11_isIn, e_X1_isKind, e_X10_isRater, e_X10_isPace, e_X10_isWeek, e_X10_isWorker, e_X10_isCause, e_X11_isPace, e_X11_isWeek, e_X11_isWorker, e_X11_isElement, e_X11_isJob, bE_s, bI, bM, jn, one_ne0, e_fdC1, e_fdM1, e_fdC2, e_fdM2, e_fdC3, e_fdM3, e_fdC4, e_fdM4, e_fdC5, e_fdM5, e_X1_has hI, h1, h2, if_true, if_false], by simp only [f_X11_of, e_X10_isWithin, e_X11_isIn, e_X1_isKind, e_X10_isRater, e_X10_isPace, e_X10_isWeek, e_X10_isWorker, e_X10_isCause, e_X11_isPace, e_X11_isWeek, e_X11_isWorker, e_X11_isElement, e_X11_isJob, bE_s, bI, bM, jn, one_ne0, e_fdC1, e_fdM1, e_fdC2, e_fdM2, e_fdC3, e_fdM3, e_fdC4, e_fdM4, e_fdC5, e_fdM5, h1, h2, fdC_at (show (11 : Nat) ≠ 12 by decide), if_true, if_false], inv_fd hI 1⟩
  have h1' := h1
  rw [ee] at h1'
  obtain ⟨x, hx, ev1⟩ := hs_nat (by omega) h1'
  obtain ⟨w, -, hw, ev2⟩ := wi_nat (lo := 0) (hi := 6) (by decide) (by decide) h2
  subst ev1 ev2
  by_cases w0 : w = 0
  · subst w0
    refine ⟨M.1 66 x, M, M, ?_, ?_, hI⟩
    · unfold f_X10_of
      rw [e_X1_has hI, bE_s, if_neg h1, e_X10_isWithin, bE_s, if_neg h2, if_pos (show nI 0 = 0 from rfl)]
      unfold f_X1_kindOf
      rw [gV_nI (show x < 12 by omega) (by decide), nI_clamp (by omega), bE_s, hI.rel.kinds]
    · unfold f_X11_of
      rw [e_X11_isElement, bE_s, if_neg h1, e_X11_isIn, bE_s, if_neg h2, if_neg (show ¬ (2 : Int32) ≤ nI 0 by decide), jn_e, if_pos (show nI 0 = 0 from rfl), gV_nI (show x < 12 by omega) (by decide), nI_clamp (by omega)]
  obtain ⟨N, n1, n2, n3, n4, n5, n6, n7⟩ := e_study hI.ww hnf ef hnc ec (show x < 12 by omega)
  have hIN : Inv N := Inv.go (eqv_of (fun q h1 h2 _ => n2.1 q h1 h2) n2.2) hI
  have hwN := n2.wc.ww hI.ww
  have ecN : N.1 11 7 = nI nc := by rw [n2.wc.c11]; exact ec
  have efN : N.1 11 4 = nI nf := by rw [n2.wc.c11]; exact ef
  have e69 : N.1 69 = M.1 69 := n2.wc.hi (by decide) (by decide)
  have hcl := cnE_le (M.1 69) (nI x) nc
  have h1N : ¬ hs (nI x) (N.1 11 0) = 0 := by rw [n2.wc.c11]; exact h1
  have hnz : ¬ nI w = 0 := nI_ne0 (by omega) (by omega)
  by_cases w1 : w = 1
  · subst w1
    refine ⟨nI (cnE (M.1 69) (nI x) nc), N, N, ?_, ?_, hIN⟩
    · unfold f_X10_of
      rw [e_X1_has hI, bE_s, if_neg h1, e_X10_isWithin, bE_s, if_neg h2, if_neg hnz, n1, bE_s, if_pos (show nI 1 ≤ 1 by decide)]
      unfold f_X8_studied
      rw [if_pos (show nI 1 = 1 from rfl), bE_s, n3]
    · unfold f_X11_of
      rw [e_X11_isElement, bE_s, if_neg h1N, e_X11_isIn, bE_s, if_neg h2, if_neg (show ¬ (2 : Int32) ≤ nI 1 by decide), jn_e, if_neg hnz, e_cycM hnc ecN, bE_s, e69]
  have h2le : (2 : Int32) ≤ nI w := nI_le (a := 2) (by omega) (by omega)
  have hn1 : ¬ nI w ≤ 1 := nI_ge (a := 1) (by omega) (by omega)
  have hst : f_X8_studied 1 N = some (nI (cnE (M.1 69) (nI x) nc), N) := by
    unfold f_X8_studied
    rw [if_pos rfl, n3]
  by_cases hz : cnE (M.1 69) (nI x) nc = 0
  · refine ⟨fdv 2, fdC N 2, fdM (fdC N 2) 2, ?_, ?_, inv_fd hIN 2⟩
    · unfold f_X10_of
      rw [e_X1_has hI, bE_s, if_neg h1, e_X10_isWithin, bE_s, if_neg h2, if_neg hnz, n1, bE_s, if_neg hn1, hst, bE_s, hz, if_pos (show nI 0 = 0 from rfl), e_fdC2, bE_s]
    · unfold f_X11_of
      rw [e_X11_isElement, bE_s, if_neg (show ¬ hs (nI x) ((fdC N 2).1 11 0) = 0 from h1N), e_X11_isIn, bE_s, if_neg h2, if_pos h2le, e_cycM (N := fdC N 2) hnc ecN, bE_s, show (fdC N 2).1 69 = M.1 69 from e69, hz, if_pos (show nI 0 = 0 from rfl), e_fdM2, bE_s]
  have hpos : 0 < cnE (M.1 69) (nI x) nc := by omega
  have hposN : 0 < cnE (N.1 69) (nI x) nc := by rw [e69]; exact hpos
  have hK := Kv_pos hI.ww hnf ef hnc ec hpos
  have hcz : ¬ nI (cnE (M.1 69) (nI x) nc) = 0 := nI_ne0 hpos (by omega)
  by_cases w4 : w = 4
  · subst w4
    obtain ⟨N2, m1, m2⟩ := e_standardOf hwN hnf efN hnc ecN (show x < 12 by omega) hposN
    rw [n2.wc.sdvE] at m1
    refine ⟨sdv M nf nc x, N, N2, ?_, ?_, Inv.go (eqv_of (fun q _ _ h3 => m2 q h3) (fun s _ => by rw [m2 2 (by decide)])) hIN⟩
    · unfold f_X10_of
      rw [e_X1_has hI, bE_s, if_neg h1, e_X10_isWithin, bE_s, if_neg h2, if_neg hnz, n1, bE_s, if_neg hn1, hst, bE_s, if_neg hcz]
      unfold f_X8_studied
      rw [if_neg (show ¬ nI 4 = 1 by decide), if_neg (show ¬ nI 4 = 2 by decide), if_neg (show ¬ nI 4 = 3 by decide), if_pos (show nI 4 = 4 from rfl), bE_s, n6]
    · unfold f_X11_of
      rw [e_X11_isElement, bE_s, if_neg h1N, e_X11_isIn, bE_s, if_neg h2, if_pos h2le, e_cycM hnc ecN, bE_s, e69, if_neg hcz, jn_e, if_pos (show nI 4 = 4 from rfl), m1, bE_s]
  obtain ⟨N2, m1, m2⟩ := e_keptOf hwN hnf efN hnc ecN hposN (nI w)
  rw [n2.wc.KvE] at m1
  have h4 : ¬ nI w = 4 := fun e => w4 ((nI_eq (b := 4) (by omega) (by decide)).mp e)
  refine ⟨if nI w = 2 then nI (Kv M nf nc (nI x)).1 else if nI w = 3 then lvK (Kv M nf nc (nI x)) else if nI w = 5 then (Kv M nf nc (nI x)).2.2.1 else (Kv M nf nc (nI x)).2.2.2, N, N2, ?_, ?_, Inv.go (eqv_of (fun q _ _ h3 => m2 q h3) (fun s _ => by rw [m2 2 (by decide)])) hIN⟩
  rotate_left
  · unfold f_X11_of
    rw [e_X11_isElement, bE_s, if_neg h1N, e_X11_isIn, bE_s, if_neg h2, if_pos h2le, e_cycM hnc ecN, bE_s, e69, if_neg hcz, jn_e, if_neg h4, m1, bE_s]
  · unfold f_X10_of
    rw [e_X1_has hI, bE_s, if_neg h1, e_X10_isWithin, bE_s, if_neg h2, if_neg hnz, n1, bE_s, if_neg hn1, hst, bE_s, if_neg hcz]
    unfold f_X8_studied
    rw [if_neg (show ¬ nI w = 1 from fun e => w1 ((nI_eq (b := 1) (by omega) (by decide)).mp e)), n4, n5, (n7 hK).1, (n7 hK).2]
    rcases (show w = 2 ∨ w = 3 ∨ w = 5 ∨ w = 6 by omega) with e | e | e | e
    · subst e; rfl
    · subst e; rfl
    · subst e; rfl
    · subst e; rfl
