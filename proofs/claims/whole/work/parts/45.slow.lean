/-! SLOW: the model, and the call -/
theorem nx_orN (a b : Nat) : nI a ||| nI b = nI (a ||| b) := by
  apply Int32.toBitVec_inj.1
  show BitVec.ofNat 32 a ||| BitVec.ofNat 32 b = BitVec.ofNat 32 (a ||| b)
  apply BitVec.eq_of_getLsbD_eq
  intro i hi
  simp [hi]
theorem or_mk {u c : Nat} (h : u < 2 ^ c) : nI u ||| nI (2 ^ c) = nI (u + 2 ^ c) := by
  have := Nat.two_pow_add_eq_or_of_lt h 1
  rw [Nat.mul_one] at this
  rw [nx_orN, Nat.or_comm, ← this, Nat.add_comm]
theorem or_n0 (u : Nat) : nI u ||| 0 = nI u := by
  show nI u ||| nI 0 = nI u
  rw [nx_orN, Nat.or_zero]
theorem mkN_congr {W V : Nat → Int32} {c : Nat} (h : ∀ k, k < c → W k = V k) : mkN W c = mkN V c := smN_congr (fun k hk => by rw [h k hk])
def Sr (M N : Mem) : Prop := N.1 11 = M.1 11 ∧ N.1 83 = M.1 83 ∧ N.1 84 = M.1 84 ∧ N.1 85 = M.1 85 ∧ N.1 87 = M.1 87 ∧ N.1 88 = M.1 88
theorem Sr.lo {M N O : Mem} (h : Sr M N) (k : ∀ q, q < 100 → O.1 q = N.1 q) : Sr M O := ⟨(k 11 (by decide)).trans h.1, (k 83 (by decide)).trans h.2.1, (k 84 (by decide)).trans h.2.2.1, (k 85 (by decide)).trans h.2.2.2.1, (k 87 (by decide)).trans h.2.2.2.2.1, (k 88 (by decide)).trans h.2.2.2.2.2⟩
theorem l_s29 {M : Mem} {n : Nat} (en : M.1 11 25 = nI n) (hn : n ≤ 100) (who job : Int32) (d : Nat) : ∀ (a k : Nat) (N : Mem), a + d = n → Sr M N → (∀ i, i < (gat M who job a).1 → N.1 100 i = (gat M who job a).2.1 i) → ∃ N' : Mem, (∀ K : Int32 → Int32 → Int32 → Mem → Option Ret, f_X11_slow_L29 who job (k + (d + 1)) (nI (gat M who job a).1) (nI (mkN (gat M who job a).2.2 (gat M who job a).1)) (nI a) N K = K (nI (gat M who job n).1) (nI (mkN (gat M who job n).2.2 (gat M who job n).1)) (nI n) N') ∧ (∀ q, q < 100 → N'.1 q = N.1 q) ∧ (∀ i, i < (gat M who job n).1 → N'.1 100 i = (gat M who job n).2.1 i) := by
  induction d with
  | zero =>
    intro a k N hh hs hp
    have : a = n := by omega
    subst this
    refine ⟨N, fun K => ?_, fun _ _ => rfl, hp⟩
    rw [show k + (0 + 1) = k + 1 from rfl, f_X11_slow_L29, hs.1, en, if_pos (nI_le (Nat.le_refl a) (by omega))]
  | succ d ih =>
    intro a k N hh hs hp
    have hc : (gat M who job a).1 ≤ 14 := gat_le M who job a
    have e1 : N.1 11 25 = nI n := by rw [hs.1]; exact en
    have s83 : N.1 83 = M.1 83 := hs.2.1
    have s84 : N.1 84 = M.1 84 := hs.2.2.1
    have s85 : N.1 85 = M.1 85 := hs.2.2.2.1
    have s87 : N.1 87 = M.1 87 := hs.2.2.2.2.1
    have s88 : N.1 88 = M.1 88 := hs.2.2.2.2.2
    have ga : ∀ z : Option Ret, gV (nI a) 100 z = z := fun z => gV_nI (by omega) (by decide)
    have gs := gat_s M who job a
    have ih := ih (a + 1) k
    generalize gat M who job a = g at gs hc hp ⊢
    obtain ⟨c, P, W⟩ := g
    have hc : c ≤ 14 := hc
    have hp : ∀ i, i < c → N.1 100 i = P i := hp
    have gc : c < 14 → ∀ z : Option Ret, gV (nI c) 14 z = z := fun h z => gV_nI (by omega) (by decide)
    by_cases q : (M.1 83 a = who ∧ M.1 84 a = job ∧ ¬ M.1 85 a ≤ 0) ∧ c < 14
    · have gs1 : gat M who job (a + 1) = (c + 1, upd P c ((M.1 87 a * 100) / M.1 85 a), upd W c (M.1 88 a)) := gs.trans (if_pos q)
      have lo : ∀ r, r < 100 → (up2 N 100 c ((M.1 87 a * 100) / M.1 85 a)).1 r = N.1 r := fun r hr => up2_ne (by omega)
      have ih := ih (up2 N 100 c ((M.1 87 a * 100) / M.1 85 a)) (by omega) (hs.lo lo) (by
        rw [gs1]
        intro i hi
        have hi : i < c + 1 := hi
        rw [up2_same]
        show upd (N.1 100) c _ i = upd P c _ i
        by_cases e : i = c
        · rw [e, upd_s, upd_s]
        · rw [upd_n e, upd_n e]; exact hp i (by omega))
      rw [gs1] at ih
      obtain ⟨N', n1, n2, n3⟩ := ih
      refine ⟨N', fun K => ?_, fun r hr => (n2 r hr).trans (lo r hr), n3⟩
      have n1 := n1 K
      obtain ⟨⟨q1, q2, q3⟩, q4⟩ := q
      have h14 : ¬ (14 : Int32) ≤ nI c := nI_ge (b := 14) q4 (by decide)
      have h85 : ¬ M.1 85 a = 0 := fun w => q3 (by rw [w]; exact i_lerf _)
      have hm : mkN (upd W c (M.1 88 a)) (c + 1) = mkN W c + if M.1 88 a = 0 then 0 else 2 ^ c := by
        rw [mkN_s, upd_s, mkN_congr (V := W) (fun k hk => upd_n (by omega))]
      have n1 : f_X11_slow_L29 who job (k + (d + 1)) (nI (c + 1)) (nI (mkN (upd W c (M.1 88 a)) (c + 1))) (nI (a + 1)) (up2 N 100 c ((M.1 87 a * 100) / M.1 85 a)) K = _ := n1
      rw [hm] at n1
      show f_X11_slow_L29 who job (k + (d + 1) + 1) (nI c) (nI (mkN W c)) (nI a) N K = _
      rw [f_X11_slow_L29, e1, if_neg (nI_ge (show a < n by omega) (by omega))]
      simp only [jn, ga, gc q4, nI_clamp (show a < 2 ^ 31 by omega), nI_clamp (show c < 2 ^ 31 by omega), s83, s84, s85, s87, q1, q2, q3, if_true, if_false, gN_n h85, bM, bI, up2_ne (show (88 : Nat) ≠ 100 by decide), s88, h14, shl_n c (by omega), nI_1]
      by_cases w : M.1 88 a = 0
      · rw [if_pos w, Nat.add_zero] at n1
        rw [if_pos w, or_n0]
        exact n1
      · rw [if_neg w] at n1 ⊢
        rw [or_mk (mkN_lt W c)]
        exact n1
    · have gs1 : gat M who job (a + 1) = (c, P, W) := gs.trans (if_neg q)
      have ih := ih N (by omega) hs (by rw [gs1]; exact hp)
      rw [gs1] at ih
      obtain ⟨N', n1, n2, n3⟩ := ih
      refine ⟨N', fun K => ?_, n2, n3⟩
      have n1 := n1 K
      have n1 : f_X11_slow_L29 who job (k + (d + 1)) (nI c) (nI (mkN W c)) (nI (a + 1)) N K = _ := n1
      show f_X11_slow_L29 who job (k + (d + 1) + 1) (nI c) (nI (mkN W c)) (nI a) N K = _
      rw [f_X11_slow_L29, e1, if_neg (nI_ge (show a < n by omega) (by omega))]
      simp only [jn, ga, nI_clamp (show a < 2 ^ 31 by omega), s83, s84, s85, nI_1]
      by_cases c1 : M.1 83 a = who
      · by_cases c2 : M.1 84 a = job
        · by_cases c3 : M.1 85 a ≤ 0
          · rw [if_pos c1, if_pos c2, if_pos c3]; exact n1
          · have c4 : c = 14 := Classical.byContradiction (fun w => q ⟨⟨c1, c2, c3⟩, by omega⟩)
            rw [if_pos c1, if_pos c2, if_neg c3, if_pos (show (14 : Int32) ≤ nI c by rw [c4]; decide)]; exact n1
        · rw [if_pos c1, if_neg c2]; exact n1
      · rw [if_neg c1]; exact n1
theorem l_s178 {c : Nat} {P : Nat → Int32} (hc : c ≤ 14) (v1 v2 v4 v5 v6 : Int32) {i : Nat} (hi : i < c) (d : Nat) : ∀ (a k : Nat) (N : Mem), a + d = c → (∀ t, t < c → N.1 100 t = P t) → N.1 101 i = nI (smN (r1 P i) a) → ∃ N' : Mem, (∀ K : Int32 → Mem → Option Ret, f_X11_slow_L178 v1 v2 (nI c) v4 v5 v6 (nI i) (k + (d + 1)) (nI a) N K = K (nI c) N') ∧ (∀ q, q ≠ 101 → N'.1 q = N.1 q) ∧ (∀ t, t ≠ i → N'.1 101 t = N.1 101 t) ∧ N'.1 101 i = nI (rkN P c i) := by
  induction d with
  | zero =>
    intro a k N hh hP h1
    have : a = c := by omega
    subst this
    refine ⟨N, fun K => ?_, fun _ _ => rfl, fun _ _ => rfl, h1⟩
    rw [show k + (0 + 1) = k + 1 from rfl, f_X11_slow_L178, if_pos (nI_le (Nat.le_refl a) (by omega))]
  | succ d ih =>
    intro a k N hh hP h1
    obtain ⟨N', n1, n2, n3, n4⟩ := ih (a + 1) k (up2 N 101 i (N.1 101 i + nI (r1 P i a))) (by omega) (fun t ht => by rw [up2_ne (by decide)]; exact hP t ht) (by rw [up2_same, upd_s, h1, smN_s, nI_add])
    refine ⟨N', fun K => ?_, fun q hq => (n2 q hq).trans (up2_ne hq), fun t ht => (n3 t ht).trans (by rw [up2_same, upd_n ht]), n4⟩
    have n1 := n1 K
    have g1 : ∀ z : Option Ret, gV (nI a) 14 z = z := fun z => gV_nI (by omega) (by decide)
    have g2 : ∀ z : Option Ret, gV (nI i) 14 z = z := fun z => gV_nI (by omega) (by decide)
    rw [show k + (d + 1 + 1) = (k + (d + 1)) + 1 from rfl, f_X11_slow_L178, if_neg (nI_ge (show a < c by omega) (by omega))]
    simp only [jn, g1, g2, bM, nI_clamp (show a < 2 ^ 31 by omega), nI_clamp (show i < 2 ^ 31 by omega), hP a (by omega), hP i hi, nI_1]
    unfold r1 at n1
    by_cases c1 : P i ≤ P a
    · rw [if_pos c1] at n1 ⊢
      by_cases c2 : a = i
      · subst c2
        rw [if_pos rfl] at n1 ⊢
        exact n1
      · rw [if_neg c2] at n1
        rw [if_neg (fun w => c2 ((nI_eq (by omega) (by omega)).mp w))]
        by_cases c3 : P a = P i
        · rw [if_pos c3] at n1 ⊢; exact n1
        · rw [if_neg c3] at n1 ⊢; exact n1
    · rw [if_neg c1] at n1 ⊢; exact n1
theorem mk_31 (W : Nat → Int32) {c : Nat} (hc : c ≤ 14) : mkN W c < 2 ^ 31 := by
  have h1 := mkN_lt W c
  have h2 : 2 ^ c ≤ 2 ^ 14 := Nat.pow_le_pow_right (by decide) hc
  omega
theorem l_s161 {c : Nat} {P W : Nat → Int32} (hc : c ≤ 14) (v1 v2 v5 : Int32) (d : Nat) : ∀ (a k : Nat) (N : Mem), a + d = c → (∀ t, t < c → N.1 100 t = P t) → (∀ t, t < a → N.1 101 t = nI (rkN P c t)) → ∃ N' : Mem, (∀ K : Int32 → Int32 → Mem → Option Ret, f_X11_slow_L161 v1 v2 (nI c) (nI (mkN W c)) v5 (k + (d + 1)) (nI (dueN P W c a)) (nI a) N K = K (nI (dueN P W c c)) (nI c) N') ∧ (∀ q, q < 100 → N'.1 q = N.1 q) ∧ (∀ t, t < c → N'.1 101 t = nI (rkN P c t)) := by
  induction d with
  | zero =>
    intro a k N hh hP h1
    have : a = c := by omega
    subst this
    refine ⟨N, fun K => ?_, fun _ _ => rfl, h1⟩
    rw [show k + (0 + 1) = k + 1 from rfl, f_X11_slow_L161, if_pos (nI_le (Nat.le_refl a) (by omega))]
  | succ d ih =>
    intro a k N hh hP h1
    obtain ⟨z, hz⟩ := FU_pos (d := c) (by omega)
    obtain ⟨N1, a1, a2, a3, a4⟩ := l_s178 (P := P) hc v1 v2 (nI (mkN W c)) v5 (nI (dueN P W c a)) (show a < c by omega) c 0 z (up2 N 101 a 0) (by omega) (fun t ht => by rw [up2_ne (by decide)]; exact hP t ht) (by rw [up2_same, upd_s]; rfl)
    rw [← hz] at a1
    obtain ⟨N', b1, b2, b3⟩ := ih (a + 1) k N1 (by omega) (fun t ht => by rw [a2 100 (by decide), up2_ne (by decide)]; exact hP t ht) (fun t ht => by
      by_cases e : t = a
      · subst e; exact a4
      · rw [a3 t e, up2_same, upd_n e]; exact h1 t (by omega))
    refine ⟨N', fun K => ?_, fun q hq => (b2 q hq).trans ((a2 q (by omega)).trans (up2_ne (by omega))), b3⟩
    have b1 := b1 K
    rw [dueN_s, ← nI_add] at b1
    have g1 : ∀ z : Option Ret, gV (nI a) 14 z = z := fun z => gV_nI (by omega) (by decide)
    rw [show k + (d + 1 + 1) = (k + (d + 1)) + 1 from rfl, f_X11_slow_L161, if_neg (nI_ge (show a < c by omega) (by omega)), g1, nI_clamp (show a < 2 ^ 31 by omega)]
    unfold bM
    rw [show nI 0 = 0 from rfl] at a1
    generalize FU = F at a1 ⊢
    refine (a1 _).trans ?_
    simp only [jn, bI, g1, bitN (mk_31 W hc) (show a < 32 by omega), mkN_bit, nI_1, a4]
    rw [if_pos (show a < c by omega)]
    by_cases q : W a = 0
    · rw [if_pos q] at b1 ⊢
      rw [if_neg (show ¬ nI 0 = 1 by decide)]
      exact b1
    · rw [if_neg q] at b1 ⊢
      rw [if_pos (show nI 1 = 1 from rfl)]
      exact b1
theorem l_s316 {N : Mem} {c t : Nat} {R : Nat → Nat} (hc : c ≤ 14) (ht : t < 2 ^ 31) (hR : ∀ i, i < c → N.1 101 i = nI (R i)) (v1 v2 v4 v5 v6 v7 v8 : Int32) (K : Int32 → Int32 → Mem → Option Ret) : ∀ (d a k : Nat), a + d = c → f_X11_slow_L316 v1 v2 (nI c) v4 v5 v6 v7 v8 (nI t) (k + (d + 1)) (nI (sbN R t a)) (nI a) N K = K (nI (sbN R t c)) (nI c) N
  | 0, a, k, hh => by
    have : a = c := by omega
    subst this
    rw [show k + (0 + 1) = k + 1 from rfl, f_X11_slow_L316, if_pos (nI_le (Nat.le_refl a) (by omega))]
  | d + 1, a, k, hh => by
    have ih := l_s316 hc ht hR v1 v2 v4 v5 v6 v7 v8 K d (a + 1) k (by omega)
    rw [sbN_s, ← nI_add] at ih
    rw [show k + (d + 1 + 1) = (k + (d + 1)) + 1 from rfl, f_X11_slow_L316, if_neg (nI_ge (show a < c by omega) (by omega))]
    simp only [jn, bI, bitN ht (show a < 32 by omega), gV_nI (show a < 14 by omega) (by decide), nI_clamp (show a < 2 ^ 31 by omega), hR a (by omega), nI_1]
    by_cases q : t / 2 ^ a % 2 = 1
    · rw [if_pos q] at ih
      rw [q, if_pos (show nI 1 = 1 from rfl)]
      exact ih
    · have q0 : t / 2 ^ a % 2 = 0 := by omega
      rw [if_neg q] at ih
      rw [q0, if_neg (show ¬ nI 0 = 1 by decide)]
      exact ih
def alN (w m : Nat) : Nat := smN (fun t => if onN t 14 = w then 1 else 0) m
def asN (R : Nat → Nat) (c w due m : Nat) : Nat := smN (fun t => if onN t 14 = w then (if sbN R t c < due then 0 else 1) else 0) m
theorem alN_s (w m : Nat) : alN w (m + 1) = alN w m + if onN m 14 = w then 1 else 0 := rfl
theorem asN_s (R : Nat → Nat) (c w due m : Nat) : asN R c w due (m + 1) = asN R c w due m + if onN m 14 = w then (if sbN R m c < due then 0 else 1) else 0 := rfl
theorem l_s292 {N : Mem} {c w due : Nat} {R : Nat → Nat} (hc : c ≤ 14) (hw : w ≤ 14) (hd : due < 2 ^ 31) (hR : ∀ i, i < c → N.1 101 i = nI (R i)) (hT : smN R c < 2 ^ 31) (v1 v2 v4 : Int32) (K : Int32 → Int32 → Int32 → Mem → Option Ret) : ∀ (d a k : Nat), a + d = 2 ^ c → f_X11_slow_L292 v1 v2 (nI c) v4 (nI w) (nI due) (k + (d + 1)) (nI (alN w a)) (nI (asN R c w due a)) (nI a) N K = K (nI (alN w (2 ^ c))) (nI (asN R c w due (2 ^ c))) (nI (2 ^ c)) N
  | 0, a, k, hh => by
    have : a = 2 ^ c := by omega
    subst this
    have hb : 2 ^ c ≤ 2 ^ 14 := Nat.pow_le_pow_right (by decide) hc
    rw [show k + (0 + 1) = k + 1 from rfl, f_X11_slow_L292, shl_n c (by omega), if_pos (nI_le (Nat.le_refl _) (by omega))]
  | d + 1, a, k, hh => by
    have hb : 2 ^ c ≤ 2 ^ 14 := Nat.pow_le_pow_right (by decide) hc
    have ih := l_s292 hc hw hd hR hT v1 v2 v4 K d (a + 1) k (by omega)
    rw [alN_s, asN_s, ← nI_add, ← nI_add] at ih
    have ho := onN_le a 14
    rw [show k + (d + 1 + 1) = (k + (d + 1)) + 1 from rfl, f_X11_slow_L292, shl_n c (by omega), if_neg (nI_ge (show a < 2 ^ c by omega) (by omega)), e_X11_ones N (by omega), bE_s]
    simp only [jn]
    by_cases q : onN a 14 = w
    · rw [if_pos q, if_pos q] at ih
      rw [if_pos (show nI (onN a 14) = nI w by rw [q])]
      obtain ⟨z, hz⟩ := FU_pos (d := c) (by omega)
      have l := fun K => l_s316 (N := N) hc (show a < 2 ^ 31 by omega) hR v1 v2 v4 (nI w) (nI due) (nI (alN w a)) (nI (asN R c w due a)) K c 0 z (by omega)
      rw [← hz] at l
      refine (l _).trans ?_
      simp only [bI, nI_1 a]
      have hs := sbN_le R a c
      by_cases q2 : sbN R a c < due
      · rw [if_pos q2] at ih
        rw [if_pos (nI_lt q2 hd)]
        exact ih
      · rw [if_neg q2] at ih
        rw [if_neg (nI_nlt (by omega) (by omega))]
        exact ih
    · rw [if_neg q, if_neg q] at ih
      rw [if_neg (fun e => q ((nI_eq (by omega) (by omega)).mp e)), nI_1 a]
      rw [show nI 0 = 0 from rfl, i_a0, i_a0] at ih
      exact ih
theorem al_eq (R : Nat → Nat) {c w B : Nat} (hc : c ≤ 14) (hB : smN R c < B) : alN w (2 ^ c) = smN (cntW R c w) B := by
  have e1 : alN w (2 ^ c) = smN (fun t => if onN t c = w then (fun _ : Nat => 1) (sbN R t c) else 0) (2 ^ c) := smN_congr (fun t ht => by rw [onN_14 ht hc])
  refine (e1.trans (X_sub R c w (fun _ => 1))).trans ?_
  rw [← X_cnt R c w (fun _ => 1) hB]
  exact smN_congr (fun s _ => Nat.one_mul _)
theorem as_eq (R : Nat → Nat) {c w due B : Nat} (hc : c ≤ 14) (hB : smN R c < B) : asN R c w due (2 ^ c) = smN (fun s => if s < due then 0 else cntW R c w s) B := by
  have e1 : asN R c w due (2 ^ c) = smN (fun t => if onN t c = w then (fun s : Nat => if s < due then 0 else 1) (sbN R t c) else 0) (2 ^ c) := smN_congr (fun t ht => by rw [onN_14 ht hc])
  refine (e1.trans (X_sub R c w (fun s => if s < due then 0 else 1))).trans ?_
  rw [← X_cnt R c w (fun s => if s < due then 0 else 1) hB]
  exact smN_congr (fun s _ => by
    by_cases q : s < due
    · rw [if_pos q, if_pos q, Nat.zero_mul]
    · rw [if_neg q, if_neg q, Nat.one_mul])
theorem e_s {M N : Mem} {n : Nat} (en : M.1 11 25 = nI n) (hn : n ≤ 100) (who job : Int32) (hsr : Sr M N) (h1 : ¬ wi who 0 7 = 0) (h2 : ¬ hs job (M.1 11 12) = 0) {c : Nat} {P W : Nat → Int32} (hg : gat M who job n = (c, P, W)) : ∃ N' : Mem, f_X11_slow who job N = (if wcN W c = 0 ∨ wcN W c = c then some (fdv 2, fdM N' 2) else some (slv P W c, N')) ∧ (∀ q, q < 100 → N'.1 q = N.1 q) := by
  obtain ⟨z, hz⟩ := FU_pos (d := n) (by omega)
  obtain ⟨N1, a1, a2, a3⟩ := l_s29 en hn who job n 0 z N (by omega) hsr (fun i hi => absurd hi (Nat.not_lt_zero i))
  rw [← hz, hg] at a1
  have hc : c ≤ 14 := by have := gat_le M who job n; rw [hg] at this; exact this
  rw [hg] at a3
  have a3 : ∀ i, i < c → N1.1 100 i = P i := a3
  have hwc := wcN_le W c
  have e12 : N.1 11 12 = M.1 11 12 := by rw [hsr.1]
  by_cases q : wcN W c = 0 ∨ wcN W c = c
  · refine ⟨N1, ?_, a2⟩
    rw [if_pos q]
    unfold f_X11_slow
    rw [e_X11_isWorker, bE_s, if_neg h1, e_X11_isJob, bE_s, e12, if_neg h2]
    refine (a1 _).trans ?_
    show bE (f_X11_ones (nI (mkN W c)) N1) _ = _
    rw [e_X11_ones N1 (mk_31 W hc), bE_s, ones_mk W hc]
    rcases q with q | q
    · rw [q, if_pos (show nI 0 = 0 from rfl), e_fdM2, bE_s]
    · by_cases q0 : wcN W c = 0
      · rw [q0, if_pos (show nI 0 = 0 from rfl), e_fdM2, bE_s]
      · rw [if_neg (nI_ne0 (by omega) (by omega)), if_pos (show nI (wcN W c) = nI c by rw [q]), e_fdM2, bE_s]
  · obtain ⟨z2, hz2⟩ := FU_pos (d := c) (by omega)
    obtain ⟨N2, b1, b2, b3⟩ := l_s161 (P := P) (W := W) hc who job (nI (wcN W c)) c 0 z2 N1 (by omega) a3 (fun t ht => absurd ht (Nat.not_lt_zero t))
    rw [← hz2] at b1
    have hb : 2 ^ c ≤ 2 ^ 14 := Nat.pow_le_pow_right (by decide) hc
    obtain ⟨z3, hz3⟩ := FU_pos (d := 2 ^ c) (by omega)
    have h182 := rk_182 P hc
    have hdue := due_le P W c hc
    have l := fun K => l_s292 (N := N2) (c := c) (w := wcN W c) (due := dueN P W c c) (R := rkN P c) hc (by omega) (by omega) b3 (by omega) who job (nI (mkN W c)) K (2 ^ c) 0 z3 (by omega)
    rw [← hz3, al_eq (rkN P c) (B := 183) hc (by omega), as_eq (rkN P c) (B := 183) hc (by omega)] at l
    refine ⟨N2, ?_, fun r hr => (b2 r hr).trans (a2 r hr)⟩
    rw [if_neg q]
    unfold f_X11_slow
    rw [e_X11_isWorker, bE_s, if_neg h1, e_X11_isJob, bE_s, e12, if_neg h2]
    refine (a1 _).trans ?_
    show bE (f_X11_ones (nI (mkN W c)) N1) _ = _
    rw [e_X11_ones N1 (mk_31 W hc), bE_s, ones_mk W hc, if_neg (nI_ne0 (by omega) (by omega)), if_neg (fun e => q (Or.inr ((nI_eq (by omega) (by omega)).mp e)))]
    refine (b1 _).trans ?_
    refine (l _).trans ?_
    simp only [jn]
    unfold slv
    split
    · rfl
    · rfl
theorem gat_fd (M : Mem) (who job : Int32) (k : Nat) : ∀ m, gat (fdC M k) who job m = gat M who job m
  | 0 => rfl
  | m + 1 => by
    rw [gat_s, gat_s, gat_fd M who job k m]
    rfl
theorem Sl.of {M N : Mem} (h : ∀ q, q < 100 → N.1 q = M.1 q) : Sl M N := fun q hq => h q (by unfold slq at hq; omega)
theorem fdM_lo {M N : Mem} (h : ∀ q, q < 100 → N.1 q = M.1 q) (k : Nat) : ∀ q, q < 100 → (fdM N k).1 q = (fdM M k).1 q := by
  intro q hq
  by_cases c : q = 95
  · subst c
    show (up2 N 95 k (N.1 95 k + 1)).1 95 = (up2 M 95 k (M.1 95 k + 1)).1 95
    rw [up2_same, up2_same, h 95 (by decide)]
  · show (up2 N 95 k (N.1 95 k + 1)).1 q = (up2 M 95 k (M.1 95 k + 1)).1 q
    rw [up2_ne c, up2_ne c, h q hq]
theorem e_canTell {N : Mem} {c : Nat} {P W : Nat → Int32} (hc : c ≤ 14) (hg : GS N (c, P, W)) : f_X6_canTell N = some (if wcN W c = 0 ∨ wcN W c = c then 0 else 1, N) := by
  have h4 : N.1 10 4 = nI c := hg.1
  have h5 : N.1 10 5 = nI (wcN W c) := hg.2.1
  have hw := wcN_le W c
  unfold f_X6_canTell
  simp only [jn, h4, h5]
  by_cases q0 : wcN W c = 0
  · rw [q0, if_pos (show nI 0 ≤ 0 by decide), if_pos (Or.inl rfl), gZ_0]
  · rw [if_neg (nI_nle (by omega) (by omega))]
    by_cases q1 : wcN W c = c
    · rw [if_pos (nI_le (by omega) (by omega)), if_pos (Or.inr q1), gZ_0]
    · rw [if_neg (nI_ge (by omega) (by omega)), if_neg (fun w => w.elim q0 q1), gZ_1]
theorem slv_01 (P W : Nat → Int32) (c : Nat) : slv P W c = 0 ∨ slv P W c = 1 := by
  unfold slv
  split
  · exact Or.inl rfl
  · exact Or.inr rfl
theorem st_slow {M : Mem} (hI : Inv M) (v1 v2 : Int32) : ∃ (r : Int32) (M1 M2 : Mem), f_X10_slow v1 v2 M = some (r, M1) ∧ f_X11_slow v1 v2 M1 = some (r, M2) ∧ Inv M2 := by
  obtain ⟨n, hn, en, -⟩ := hI.w
  by_cases h1 : wi v1 0 7 = 0
  · exact ⟨fdv 1, fdC M 1, fdM (fdC M 1) 1, by simp only [f_X10_slow, e_X10_isWithin, e_X11_isIn, e_X1_isKind, e_X10_isRater, e_X10_isPace, e_X10_isWeek, e_X10_isWorker, e_X10_isCause, e_X11_isPace, e_X11_isWeek, e_X11_isWorker, e_X11_isElement, e_X11_isJob, bE_s, bI, bM, jn, one_ne0, e_fdC1, e_fdM1, e_fdC2, e_fdM2, e_fdC3, e_fdM3, e_fdC4, e_fdM4, e_fdC5, e_fdM5, h1, if_true, if_false], by simp only [f_X11_slow, e_X10_isWithin, e_X11_isIn, e_X1_isKind, e_X10_isRater, e_X10_isPace, e_X10_isWeek, e_X10_isWorker, e_X10_isCause, e_X11_isPace, e_X11_isWeek, e_X11_isWorker, e_X11_isElement, e_X11_isJob, bE_s, bI, bM, jn, one_ne0, e_fdC1, e_fdM1, e_fdC2, e_fdM2, e_fdC3, e_fdM3, e_fdC4, e_fdM4, e_fdC5, e_fdM5, h1, fdC_at (show (11 : Nat) ≠ 12 by decide), if_true, if_false], inv_fd hI 1⟩
  by_cases h2 : hs v2 (M.1 11 12) = 0
  · exact ⟨fdv 1, fdC M 1, fdM (fdC M 1) 1, by simp only [f_X10_slow, e_X10_isWithin, e_X11_isIn, e_X1_isKind, e_X10_isRater, e_X10_isPace, e_X10_isWeek, e_X10_isWorker, e_X10_isCause, e_X11_isPace, e_X11_isWeek, e_X11_isWorker, e_X11_isElement, e_X11_isJob, bE_s, bI, bM, jn, one_ne0, e_fdC1, e_fdM1, e_fdC2, e_fdM2, e_fdC3, e_fdM3, e_fdC4, e_fdM4, e_fdC5, e_fdM5, h1, e_X2_has hI, h2, if_true, if_false], by simp only [f_X11_slow, e_X10_isWithin, e_X11_isIn, e_X1_isKind, e_X10_isRater, e_X10_isPace, e_X10_isWeek, e_X10_isWorker, e_X10_isCause, e_X11_isPace, e_X11_isWeek, e_X11_isWorker, e_X11_isElement, e_X11_isJob, bE_s, bI, bM, jn, one_ne0, e_fdC1, e_fdM1, e_fdC2, e_fdM2, e_fdC3, e_fdM3, e_fdC4, e_fdM4, e_fdC5, e_fdM5, h1, h2, fdC_at (show (11 : Nat) ≠ 12 by decide), if_true, if_false], inv_fd hI 1⟩
  obtain ⟨N, n1, n2, n3⟩ := e_gather hI en hn v1 v2
  rcases hg : gat M v1 v2 n with ⟨c, P, W⟩
  rw [hg] at n3
  have hc : c ≤ 14 := by have := gat_le M v1 v2 n; rw [hg] at this; exact this
  have hct := e_canTell hc n3
  by_cases q : wcN W c = 0 ∨ wcN W c = c
  · have hsr : Sr (fdC M 2) (fdC N 2) := ⟨n2 11 sl11, n2 83 sl83, n2 84 sl84, n2 85 sl85, n2 87 sl87, n2 88 sl88⟩
    obtain ⟨N', p1, p2⟩ := e_s (M := fdC M 2) (N := fdC N 2) en hn v1 v2 hsr h1 h2 ((gat_fd M v1 v2 2 n).trans hg)
    rw [if_pos q] at p1 hct
    refine ⟨fdv 2, fdC N 2, fdM N' 2, ?_, p1, (Sl.of (fdM_lo p2 2)).inv (inv_fd (n2.inv hI) 2)⟩
    unfold f_X10_slow
    rw [e_X10_isWorker, bE_s, if_neg h1, e_X2_has hI, bE_s, if_neg h2, n1, bE_s, hct, bE_s, if_pos rfl, e_fdC2, bE_s]
  · obtain ⟨N2, m1, m2⟩ := e_doubt hc n3
    have hN2 : Sl N N2 := fun r hr => m2 r (by unfold slq at hr; omega)
    have hsl : Sl M N2 := n2.tr hN2
    have hsr : Sr M N2 := ⟨hsl 11 sl11, hsl 83 sl83, hsl 84 sl84, hsl 85 sl85, hsl 87 sl87, hsl 88 sl88⟩
    obtain ⟨N', p1, p2⟩ := e_s (M := M) (N := N2) en hn v1 v2 hsr h1 h2 hg
    rw [if_neg q] at p1 hct
    refine ⟨slv P W c, N2, N', ?_, p1, (Sl.of p2).inv (hsl.inv hI)⟩
    unfold f_X10_slow
    rw [e_X10_isWorker, bE_s, if_neg h1, e_X2_has hI, bE_s, if_neg h2, n1, bE_s, hct, bE_s, if_neg one_ne0, m1, bE_s]
    simp only [jn]
    rcases slv_01 P W c with e | e
    · rw [e, if_pos rfl]
    · rw [e, if_neg one_ne0]
