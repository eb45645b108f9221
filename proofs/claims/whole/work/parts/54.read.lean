/-! READ: the call -/
theorem rwL_congr {f g ch : Nat → Int32} (h : ∀ w, w < 5 → f w = g w) : ∀ d b m, b + d = 5 → rwL f ch d b m = rwL g ch d b m
  | 0, _, _, _ => rfl
  | d + 1, b, m, hb => by
    rw [rwL_s, rwL_s, h b (by omega), rwL_congr h d (b + 1) _ (by omega), rwL_congr h d (b + 1) m (by omega)]
theorem rdCl_congr {t f g : Nat → Int32} {L P : Nat} (h : ∀ w, w < 5 → f w = g w) : (rdCl t L f P).1 = (rdCl t L g P).1 ∧ (rdCl t L f P).2.2 = (rdCl t L g P).2.2 ∧ ∀ w, w < 5 → (rdCl t L f P).2.1 w = (rdCl t L g P).2.1 w := by
  have e : rdW t L f P = rdW t L g P := rwL_congr h 5 0 0 rfl
  unfold rdCl
  rw [e]
  generalize rdW t L g P = W
  unfold rdC2
  by_cases q1 : W.1 = -1
  · rw [if_pos q1, if_pos q1]; exact ⟨rfl, rfl, h⟩
  rw [if_neg q1, if_neg q1]
  by_cases q2 : P + W.2 < L ∧ t (P + W.2) = 32
  case neg => rw [if_neg q2, if_neg q2]; exact ⟨rfl, rfl, h⟩
  rw [if_pos q2, if_pos q2]
  unfold rdC3
  by_cases q3 : (rnN t L 3 0 (P + W.2 + 1)).2 = P + W.2 + 1
  · rw [if_pos q3, if_pos q3]; exact ⟨rfl, rfl, h⟩
  rw [if_neg q3, if_neg q3]
  by_cases q4 : tbG W.1.toNatClampNeg < nI (rnN t L 3 0 (P + W.2 + 1)).1
  · rw [if_pos q4, if_pos q4]; exact ⟨rfl, rfl, h⟩
  rw [if_neg q4, if_neg q4]
  by_cases q5 : (rnN t L 3 0 (P + W.2 + 1)).2 < L ∧ t (rnN t L 3 0 (P + W.2 + 1)).2 = 59
  · rw [if_pos q5, if_pos q5]
    refine ⟨rfl, rfl, fun w hw => ?_⟩
    show upd f _ _ w = upd g _ _ w
    by_cases c : w = W.1.toNatClampNeg
    · rw [c, upd_s, upd_s]
    · rw [upd_n c, upd_n c]; exact h w hw
  · rw [if_neg q5, if_neg q5]; exact ⟨rfl, rfl, h⟩
theorem rdAll_congr {t : Nat → Int32} {L : Nat} : ∀ (d : Nat) (f g : Nat → Int32) (P : Nat), (∀ w, w < 5 → f w = g w) → (rdAll t L d f P).1 = (rdAll t L d g P).1 ∧ (rdAll t L d f P).2.2 = (rdAll t L d g P).2.2 ∧ ∀ w, w < 5 → (rdAll t L d f P).2.1 w = (rdAll t L d g P).2.1 w
  | 0, f, g, P, h => ⟨rfl, rfl, h⟩
  | d + 1, f, g, P, h => by
    obtain ⟨c1, c2, c3⟩ := rdCl_congr (t := t) (L := L) (P := P) h
    rw [rdAll_s, rdAll_s]
    by_cases q : L ≤ P
    · rw [if_pos q, if_pos q]; exact ⟨rfl, rfl, h⟩
    · rw [if_neg q, if_neg q]
      by_cases q2 : (rdCl t L g P).1 = 0
      · rw [if_pos (c1.trans q2), if_pos q2]; exact ⟨c1, c2, c3⟩
      · rw [if_neg (fun u => q2 (c1.symm.trans u)), if_neg q2, c2]
        exact rdAll_congr d _ _ _ c3
theorem rdCl_p {t new : Nat → Int32} {L P : Nat} (hP : P ≤ 60) : (rdCl t L new P).2.2 ≤ 100 := by
  have hn := WR_5 (rdW_WR t L new P)
  have hb := rnN_b (t := t) (L := L) 3 0 0 (P + (rdW t L new P).2 + 1) rfl hv0
  unfold rdCl rdC2 rdC3
  split
  · show P + (rdW t L new P).2 ≤ 100; omega
  · split
    · split
      · show P + (rdW t L new P).2 + 1 ≤ 100; omega
      · split
        · show (rnN t L 3 0 (P + (rdW t L new P).2 + 1)).2 ≤ 100; omega
        · split
          · show (rnN t L 3 0 (P + (rdW t L new P).2 + 1)).2 + 1 ≤ 100; omega
          · show (rnN t L 3 0 (P + (rdW t L new P).2 + 1)).2 ≤ 100; omega
    · show P + (rdW t L new P).2 ≤ 100; omega
theorem rdAll_p {t : Nat → Int32} {L : Nat} (hL : L ≤ 60) : ∀ (d : Nat) (new : Nat → Int32) (P : Nat), P ≤ 60 → (rdAll t L d new P).2.2 ≤ 100
  | 0, new, P, h => by show P ≤ 100; omega
  | d + 1, new, P, h => by
    rw [rdAll_s]
    by_cases q : L ≤ P
    · rw [if_pos q]; show P ≤ 100; omega
    · rw [if_neg q]
      by_cases q2 : (rdCl t L new P).1 = 0
      · rw [if_pos q2]; exact rdCl_p h
      · obtain ⟨-, -, -, -, -, -, -, h6⟩ := rdCl_ok q2
        rw [if_neg q2]; exact rdAll_p hL d _ _ (by omega)
def tk (f new : Nat → Int32) : Nat → Nat → Int32
  | 0 => f
  | a + 1 => if new a = -1 then tk f new a else upd (tk f new a) a (new a)
theorem tk_s (f new : Nat → Int32) (a : Nat) : tk f new (a + 1) = if new a = -1 then tk f new a else upd (tk f new a) a (new a) := rfl
theorem tk_congr {f n1 n2 : Nat → Int32} (h : ∀ w, w < 5 → n1 w = n2 w) : ∀ a, a ≤ 5 → tk f n1 a = tk f n2 a
  | 0, _ => rfl
  | a + 1, ha => by rw [tk_s, tk_s, h a (by omega), tk_congr h a (by omega)]
theorem tk_U {f new : Nat → Int32} (hf : GU f) (hN : NV new) : ∀ a, a ≤ 5 → GU (tk f new a)
  | 0, _ => hf
  | a + 1, ha => by
    have ih := tk_U hf hN a (by omega)
    rw [tk_s]
    by_cases q : new a = -1
    · rw [if_pos q]; exact ih
    · rw [if_neg q]
      intro i hi
      by_cases e : i = a
      · rw [e, upd_s]; exact (hN a (by omega)).resolve_left q
      · rw [upd_n e]; exact ih i hi
def cnM (new : Nat → Int32) (a : Nat) : Nat := smN (fun w => if new w = -1 then 0 else 1) a
theorem cnM_s (new : Nat → Int32) (a : Nat) : cnM new (a + 1) = cnM new a + if new a = -1 then 0 else 1 := rfl
theorem cnM_congr {n1 n2 : Nat → Int32} (h : ∀ w, w < 5 → n1 w = n2 w) : cnM n1 5 = cnM n2 5 := smN_congr (fun w hw => by rw [h w hw])
theorem l_takeC {f new : Nat → Int32} (d : Nat) : ∀ (a k : Nat) (N : Mem), a + d = 5 → N.1 31 = new → N.1 30 = tk f new a → ∃ N' : Mem, (∀ K : Int32 → Int32 → Mem → Option Ret, f_X5_takeNewValues_L4 (k + (d + 1)) (nI (cnM new a)) (nI a) N K = K (nI (cnM new 5)) (nI 5) N') ∧ (∀ q, q ≠ 30 → N'.1 q = N.1 q) ∧ N'.1 30 = tk f new 5 := by
  induction d with
  | zero =>
    intro a k N hh h31 h30
    have : a = 5 := by omega
    subst this
    refine ⟨N, fun K => ?_, fun _ _ => rfl, h30⟩
    rw [show k + (0 + 1) = k + 1 from rfl, f_X5_takeNewValues_L4, if_pos (show (5 : Int32) ≤ nI 5 by decide)]
  | succ d ih =>
    intro a k N hh h31 h30
    have g5 : ∀ z : Option Ret, gV (nI a) 5 z = z := fun z => gV_nI (by omega) (by decide)
    by_cases q : new a = -1
    · obtain ⟨N', n1, n2, n3⟩ := ih (a + 1) k N (by omega) h31 (by rw [tk_s, if_pos q]; exact h30)
      refine ⟨N', fun K => ?_, n2, n3⟩
      have n1 := n1 K
      rw [cnM_s, if_pos q, Nat.add_zero] at n1
      rw [show k + (d + 1 + 1) = (k + (d + 1)) + 1 from rfl, f_X5_takeNewValues_L4, if_neg (show ¬ (5 : Int32) ≤ nI a from nI_ge (b := 5) (by omega) (by decide)), g5, nI_clamp (show a < 2 ^ 31 by omega), h31]
      simp only [jn, if_pos q, nI_1]
      exact n1
    · obtain ⟨N', n1, n2, n3⟩ := ih (a + 1) k (up2 N 30 a (new a)) (by omega) (by rw [up2_ne (by decide)]; exact h31) (by rw [up2_same, tk_s, if_neg q, h30])
      refine ⟨N', fun K => ?_, fun r hr => (n2 r hr).trans (up2_ne hr), n3⟩
      have n1 := n1 K
      rw [cnM_s, if_neg q] at n1
      rw [show k + (d + 1 + 1) = (k + (d + 1)) + 1 from rfl, f_X5_takeNewValues_L4, if_neg (show ¬ (5 : Int32) ≤ nI a from nI_ge (b := 5) (by omega) (by decide)), g5, nI_clamp (show a < 2 ^ 31 by omega), h31]
      simp only [jn, if_neg q, g5, bM, nI_1]
      exact n1
theorem l_takeM {f new : Nat → Int32} (hN : NV new) (v1 : Int32) (d : Nat) : ∀ (a k : Nat) (N : Mem), a + d = 5 → N.1 97 = new → N.1 80 = tk f new a → ∃ N' : Mem, (∀ K : Int32 → Int32 → Mem → Option Ret, f_X11_read_L23 v1 (k + (d + 1)) (nI (cnM new a)) (nI a) N K = K (nI (cnM new 5)) (nI 5) N') ∧ (∀ q, q ≠ 80 → N'.1 q = N.1 q) ∧ N'.1 80 = tk f new 5 := by
  induction d with
  | zero =>
    intro a k N hh h31 h30
    have : a = 5 := by omega
    subst this
    refine ⟨N, fun K => ?_, fun _ _ => rfl, h30⟩
    rw [show k + (0 + 1) = k + 1 from rfl, f_X11_read_L23, if_pos (show (5 : Int32) ≤ nI 5 by decide)]
  | succ d ih =>
    intro a k N hh h31 h30
    have g5 : ∀ z : Option Ret, gV (nI a) 5 z = z := fun z => gV_nI (by omega) (by decide)
    by_cases q : new a = -1
    · obtain ⟨N', n1, n2, n3⟩ := ih (a + 1) k N (by omega) h31 (by rw [tk_s, if_pos q]; exact h30)
      refine ⟨N', fun K => ?_, n2, n3⟩
      have n1 := n1 K
      rw [cnM_s, if_pos q, Nat.add_zero] at n1
      have qn : new a < 0 := by rw [q]; exact m1_neg
      rw [show k + (d + 1 + 1) = (k + (d + 1)) + 1 from rfl, f_X11_read_L23, if_neg (show ¬ (5 : Int32) ≤ nI a from nI_ge (b := 5) (by omega) (by decide)), g5, nI_clamp (show a < 2 ^ 31 by omega), h31]
      simp only [jn, if_pos qn, nI_1]
      exact n1
    · obtain ⟨N', n1, n2, n3⟩ := ih (a + 1) k (up2 N 80 a (new a)) (by omega) (by rw [up2_ne (by decide)]; exact h31) (by rw [up2_same, tk_s, if_neg q, h30])
      refine ⟨N', fun K => ?_, fun r hr => (n2 r hr).trans (up2_ne hr), n3⟩
      have n1 := n1 K
      rw [cnM_s, if_neg q] at n1
      have qn : ¬ new a < 0 := by
        obtain ⟨x, hx, ex⟩ := (hN a (by omega)).resolve_left q
        rw [ex]; exact nI_pos (by split at hx <;> omega)
      rw [show k + (d + 1 + 1) = (k + (d + 1)) + 1 from rfl, f_X11_read_L23, if_neg (show ¬ (5 : Int32) ≤ nI a from nI_ge (b := 5) (by omega) (by decide)), g5, nI_clamp (show a < 2 ^ 31 by omega), h31]
      simp only [jn, if_neg qn, g5, bM, nI_1]
      exact n1
theorem l_f97 (d : Nat) : ∀ (a k : Nat) (N : Mem), a + d = 5 → (∀ w, w < a → N.1 97 w = -1) → ∃ N' : Mem, (∀ K : Int32 → Mem → Option Ret, f_X11_readAll_L2 (k + (d + 1)) (nI a) N K = K (nI 5) N') ∧ (∀ q, q ≠ 97 → N'.1 q = N.1 q) ∧ ∀ w, w < 5 → N'.1 97 w = -1 := by
  induction d with
  | zero =>
    intro a k N hh h
    have : a = 5 := by omega
    subst this
    refine ⟨N, fun K => ?_, fun _ _ => rfl, h⟩
    rw [show k + (0 + 1) = k + 1 from rfl, f_X11_readAll_L2, if_pos (show (5 : Int32) ≤ nI 5 by decide)]
  | succ d ih =>
    intro a k N hh h
    obtain ⟨N', n1, n2, n3⟩ := ih (a + 1) k (up2 N 97 a (-1)) (by omega) (fun w hw => by
      rw [up2_same]
      by_cases e : w = a
      · rw [e, upd_s]
      · rw [upd_n e]; exact h w (by omega))
    refine ⟨N', fun K => ?_, fun q hq => (n2 q hq).trans (up2_ne hq), n3⟩
    rw [show k + (d + 1 + 1) = (k + (d + 1)) + 1 from rfl, f_X11_readAll_L2, if_neg (show ¬ (5 : Int32) ≤ nI a from nI_ge (b := 5) (by omega) (by decide)), gV_nI (show a < 5 by omega) (by decide), nI_clamp (show a < 2 ^ 31 by omega), bM_e, nI_1]
    exact n1 K
theorem cn_all {new : Nat → Int32} (h : ∀ w, w < 5 → new w = -1) : cnN new = 0 := smN_z (fun w hw => by rw [if_pos (h w hw)])
theorem e_readAll {N : Mem} {L : Nat} (eL : N.1 11 24 = nI L) (hL : L ≤ 60) : ∃ (N' : Mem), (∀ q, q ≠ 97 → N'.1 q = N.1 q) ∧ (∀ w, w < 5 → N'.1 97 w = -1) ∧ f_X11_readAll N = some (if (rdAll (N.1 81) L 6 (N'.1 97) 0).1 = 0 then nI (rdAll (N.1 81) L 6 (N'.1 97) 0).2.2 else -1, Mst N' (rdAll (N.1 81) L 6 (N'.1 97) 0).2.1 (rdAll (N.1 81) L 6 (N'.1 97) 0).2.2) := by
  obtain ⟨y, hy⟩ := FU_pos (d := 5) (by omega)
  obtain ⟨N', a1, a2, a3⟩ := l_f97 5 0 y N rfl (fun w hw => absurd hw (Nat.not_lt_zero w))
  rw [← hy, show nI 0 = 0 from rfl] at a1
  obtain ⟨y6, hy6⟩ := FU_pos (d := 6) (by omega)
  have l := l_all (M := N') (L := L) (by rw [a2 11 (by decide)]; exact eL) hL 6 y6 (N'.1 97) 0 (nI 5) (by rw [cn_all a3]) (fun w hw => Or.inl (a3 w hw)) (by omega)
  rw [← hy6, ← Mst_0, show nI 0 = 0 from rfl, a2 81 (by decide)] at l
  refine ⟨N', a2, a3, ?_⟩
  unfold f_X11_readAll
  rw [a1, bM_e, l]
theorem inv_read {M N : Mem} (hI : Inv M) {X : Nat → Int32} (hX : GU X) (hc : ∀ q, q ≠ 5 → q ≠ 11 → q ≠ 30 → q ≠ 31 → q ≠ 80 → q ≠ 97 → N.1 q = M.1 q) (h53 : N.1 5 3 = 0) (h24 : N.1 11 24 = 0) (h11 : ∀ s, s ≠ 24 → s ≠ 44 → N.1 11 s = M.1 11 s) (h30 : N.1 30 = X) (h80 : N.1 80 = X) : Inv N := by
  have hT : GT 0 (M.1 81) := ⟨isN_0 _, hI.t.2⟩
  unfold Inv REL
  simp only [hc 0 (by decide) (by decide) (by decide) (by decide) (by decide) (by decide), hc 1 (by decide) (by decide) (by decide) (by decide) (by decide) (by decide), hc 2 (by decide) (by decide) (by decide) (by decide) (by decide) (by decide), hc 3 (by decide) (by decide) (by decide) (by decide) (by decide) (by decide), hc 4 (by decide) (by decide) (by decide) (by decide) (by decide) (by decide), hc 6 (by decide) (by decide) (by decide) (by decide) (by decide) (by decide), hc 7 (by decide) (by decide) (by decide) (by decide) (by decide) (by decide), hc 12 (by decide) (by decide) (by decide) (by decide) (by decide) (by decide), hc 13 (by decide) (by decide) (by decide) (by decide) (by decide) (by decide), hc 14 (by decide) (by decide) (by decide) (by decide) (by decide) (by decide), hc 15 (by decide) (by decide) (by decide) (by decide) (by decide) (by decide), hc 16 (by decide) (by decide) (by decide) (by decide) (by decide) (by decide), hc 17 (by decide) (by decide) (by decide) (by decide) (by decide) (by decide), hc 18 (by decide) (by decide) (by decide) (by decide) (by decide) (by decide), hc 19 (by decide) (by decide) (by decide) (by decide) (by decide) (by decide), hc 20 (by decide) (by decide) (by decide) (by decide) (by decide) (by decide), hc 22 (by decide) (by decide) (by decide) (by decide) (by decide) (by decide), hc 23 (by decide) (by decide) (by decide) (by decide) (by decide) (by decide), hc 24 (by decide) (by decide) (by decide) (by decide) (by decide) (by decide), hc 25 (by decide) (by decide) (by decide) (by decide) (by decide) (by decide), hc 26 (by decide) (by decide) (by decide) (by decide) (by decide) (by decide), hc 27 (by decide) (by decide) (by decide) (by decide) (by decide) (by decide), hc 28 (by decide) (by decide) (by decide) (by decide) (by decide) (by decide), hc 29 (by decide) (by decide) (by decide) (by decide) (by decide) (by decide), hc 32 (by decide) (by decide) (by decide) (by decide) (by decide) (by decide), hc 33 (by decide) (by decide) (by decide) (by decide) (by decide) (by decide), hc 34 (by decide) (by decide) (by decide) (by decide) (by decide) (by decide), hc 35 (by decide) (by decide) (by decide) (by decide) (by decide) (by decide), hc 36 (by decide) (by decide) (by decide) (by decide) (by decide) (by decide), hc 37 (by decide) (by decide) (by decide) (by decide) (by decide) (by decide), hc 38 (by decide) (by decide) (by decide) (by decide) (by decide) (by decide), hc 39 (by decide) (by decide) (by decide) (by decide) (by decide) (by decide), hc 40 (by decide) (by decide) (by decide) (by decide) (by decide) (by decide), hc 41 (by decide) (by decide) (by decide) (by decide) (by decide) (by decide), hc 42 (by decide) (by decide) (by decide) (by decide) (by decide) (by decide), hc 43 (by decide) (by decide) (by decide) (by decide) (by decide) (by decide), hc 44 (by decide) (by decide) (by decide) (by decide) (by decide) (by decide), hc 66 (by decide) (by decide) (by decide) (by decide) (by decide) (by decide), hc 67 (by decide) (by decide) (by decide) (by decide) (by decide) (by decide), hc 68 (by decide) (by decide) (by decide) (by decide) (by decide) (by decide), hc 69 (by decide) (by decide) (by decide) (by decide) (by decide) (by decide), hc 70 (by decide) (by decide) (by decide) (by decide) (by decide) (by decide), hc 71 (by decide) (by decide) (by decide) (by decide) (by decide) (by decide), hc 72 (by decide) (by decide) (by decide) (by decide) (by decide) (by decide), hc 73 (by decide) (by decide) (by decide) (by decide) (by decide) (by decide), hc 74 (by decide) (by decide) (by decide) (by decide) (by decide) (by decide), hc 75 (by decide) (by decide) (by decide) (by decide) (by decide) (by decide), hc 76 (by decide) (by decide) (by decide) (by decide) (by decide) (by decide), hc 77 (by decide) (by decide) (by decide) (by decide) (by decide) (by decide), hc 78 (by decide) (by decide) (by decide) (by decide) (by decide) (by decide), hc 79 (by decide) (by decide) (by decide) (by decide) (by decide) (by decide), hc 81 (by decide) (by decide) (by decide) (by decide) (by decide) (by decide), hc 82 (by decide) (by decide) (by decide) (by decide) (by decide) (by decide), hc 83 (by decide) (by decide) (by decide) (by decide) (by decide) (by decide), hc 84 (by decide) (by decide) (by decide) (by decide) (by decide) (by decide), hc 85 (by decide) (by decide) (by decide) (by decide) (by decide) (by decide), hc 86 (by decide) (by decide) (by decide) (by decide) (by decide) (by decide), hc 87 (by decide) (by decide) (by decide) (by decide) (by decide) (by decide), hc 88 (by decide) (by decide) (by decide) (by decide) (by decide) (by decide), hc 89 (by decide) (by decide) (by decide) (by decide) (by decide) (by decide), hc 90 (by decide) (by decide) (by decide) (by decide) (by decide) (by decide), hc 91 (by decide) (by decide) (by decide) (by decide) (by decide) (by decide), hc 92 (by decide) (by decide) (by decide) (by decide) (by decide) (by decide), hc 93 (by decide) (by decide) (by decide) (by decide) (by decide) (by decide), hc 94 (by decide) (by decide) (by decide) (by decide) (by decide) (by decide), hc 95 (by decide) (by decide) (by decide) (by decide) (by decide) (by decide), h53, h24, h30, h80, h11 0 (by decide) (by decide), h11 2 (by decide) (by decide), h11 3 (by decide) (by decide), h11 4 (by decide) (by decide), h11 7 (by decide) (by decide), h11 12 (by decide) (by decide), h11 17 (by decide) (by decide), h11 21 (by decide) (by decide), h11 25 (by decide) (by decide), h11 33 (by decide) (by decide), h11 39 (by decide) (by decide), true_and]
  exact ⟨⟨hI.rel.many, hI.rel.base, hI.rel.more, hI.rel.kinds, hI.rel.films, hI.rel.cycles, hI.rel.cOf, hI.rel.cBy, hI.rel.cPace, hI.rel.cTime, hI.rel.jobs, hI.rel.parts, hI.rel.pOf, hI.rel.often, hI.rel.rates, hI.rel.rOf, hI.rel.rFrom, hI.rel.worth, hI.rel.tape, hI.rel.rows, hI.rel.wWeek, hI.rel.wWorker, hI.rel.wJob, hI.rel.wGood, hI.rel.wSpoilt, hI.rel.wMin, hI.rel.wWat, hI.rel.began, hI.rel.waits, hI.rel.aWeek, hI.rel.aWorker, hI.rel.aMin, hI.rel.nums, hI.rel.num, hI.rel.week, hI.rel.found⟩, hI.e, hI.f, hI.c, hI.j, hI.r, hI.m, hX, hT, hI.w, hI.a, hI.b, hI.n⟩
theorem st_read {M : Mem} (hI : Inv M) : ∃ (r : Int32) (M1 M2 : Mem), f_X10_read  M = some (r, M1) ∧ f_X11_read  M1 = some (r, M2) ∧ Inv M2 := by
  obtain ⟨L, hL, eL⟩ := hI.t.1
  have eLc : M.1 5 3 = nI L := hI.rel.taped.trans eL
  obtain ⟨M', f1, f2, f3, f4, -⟩ := e_fill 31 5 (by decide) (-1) M
  have eL' : M'.1 5 3 = nI L := by rw [f3 5 (by decide)]; exact eLc
  obtain ⟨y6, hy6⟩ := FU_pos (d := 6) (by omega)
  have l := l_clauses (M := M') (L := L) eL' hL 6 0 y6 (M'.1 31) 0 rfl (by omega)
  rw [← hy6, ← Cst_0, show nI 0 = 0 from rfl, f3 32 (by decide), hI.rel.tape] at l
  have hcl : f_X5_readClauses M = some ((rdAll (M.1 81) L 6 (M'.1 31) 0).1, Cst M' (rdAll (M.1 81) L 6 (M'.1 31) 0).2.1 (rdAll (M.1 81) L 6 (M'.1 31) 0).2.2) := by
    unfold f_X5_readClauses
    rw [f1, bE_s, bM_e, l]
  have hNV : NV (rdAll (M.1 81) L 6 (M'.1 31) 0).2.1 := rdAll_NV 6 _ _ (fun w hw => Or.inl (f4 w hw))
  have hp := rdAll_p (t := M.1 81) hL 6 (M'.1 31) 0 (by omega)
  -- the model, at a memory that keeps its cells
  have hmod : ∀ N : Mem, N.1 11 = M.1 11 → N.1 81 = M.1 81 → ∃ N', (∀ q, q ≠ 97 → N'.1 q = N.1 q) ∧ ∃ told : Nat → Int32, (∀ w, w < 5 → (rdAll (M.1 81) L 6 (M'.1 31) 0).2.1 w = told w) ∧ f_X11_readAll N = some (if (rdAll (M.1 81) L 6 (M'.1 31) 0).1 = 0 then nI (rdAll (M.1 81) L 6 (M'.1 31) 0).2.2 else -1, Mst N' told (rdAll (M.1 81) L 6 (M'.1 31) 0).2.2) := by
    intro N e11 e81
    obtain ⟨N', a1, a2, a3⟩ := e_readAll (N := N) (L := L) (by rw [e11]; exact eL) hL
    obtain ⟨c1, c2, c3⟩ := rdAll_congr (t := M.1 81) (L := L) 6 (M'.1 31) (N'.1 97) 0 (fun w hw => by rw [f4 w hw, a2 w hw])
    rw [e81, ← c1, ← c2] at a3
    exact ⟨N', a1, _, c3, a3⟩
  generalize rdAll (M.1 81) L 6 (M'.1 31) 0 = R at hcl hNV hp hmod
  by_cases q : R.1 = 0
  · obtain ⟨N', b1, told, b2, b3⟩ := hmod (up2 (Cst M' R.2.1 R.2.2) 5 3 0) (by rw [up2_ne (by decide), Cst_ne (by decide) (by decide), f3 11 (by decide)]) (by rw [up2_ne (by decide), Cst_ne (by decide) (by decide), f3 81 (by decide)])
    rw [if_pos q] at b3
    have e54 : (up2 (Cst M' R.2.1 R.2.2) 5 3 0).1 5 4 = nI R.2.2 := by rw [up2_same, upd_n (by decide), Cst_54]
    refine ⟨-10 - nI R.2.2, up2 (Cst M' R.2.1 R.2.2) 5 3 0, up2 (Mst N' told R.2.2) 11 24 0, ?_, ?_, ?_⟩
    · unfold f_X10_read f_X5_takeTape
      rw [hcl, bE_s, bM_e, jn_e, if_pos q, e54]
      rfl
    · unfold f_X11_read
      rw [b3, bE_s, bM_e, if_neg (nI_pos (by omega))]
    · refine inv_read hI hI.u (fun r h1 h2 h3 h4 h5 h6 => ?_) ?_ ?_ (fun s h1 h2 => ?_) ?_ ?_
      · rw [up2_ne h2, Mst_ne h6 h2, b1 r h6, up2_ne h1, Cst_ne h4 h1, f3 r h4]
      · rw [up2_ne (by decide), Mst_ne (by decide) (by decide), b1 5 (by decide), up2_same, upd_s]
      · rw [up2_same, upd_s]
      · rw [up2_same, upd_n h1]
        show upd (N'.1 11) 44 _ s = _
        rw [upd_n h2, b1 11 (by decide), up2_ne (by decide), Cst_ne (by decide) (by decide), f3 11 (by decide)]
      · rw [up2_ne (by decide), Mst_ne (by decide) (by decide), b1 30 (by decide), up2_ne (by decide), Cst_ne (by decide) (by decide), f3 30 (by decide), hI.rel.rules]
      · rw [up2_ne (by decide), Mst_ne (by decide) (by decide), b1 80 (by decide), up2_ne (by decide), Cst_ne (by decide) (by decide), f3 80 (by decide)]
  · obtain ⟨y, hy⟩ := FU_pos (d := 5) (by omega)
    obtain ⟨N1, t1, t2, t3⟩ := l_takeC (f := M.1 80) (new := R.2.1) 5 0 y (up2 (Cst M' R.2.1 R.2.2) 5 3 0) rfl (by rw [up2_ne (by decide), Cst_31]) (by rw [up2_ne (by decide), Cst_ne (by decide) (by decide), f3 30 (by decide), hI.rel.rules]; rfl)
    rw [← hy, show nI (cnM R.2.1 0) = 0 from rfl, show nI 0 = 0 from rfl] at t1
    have htk : f_X5_takeNewValues (up2 (Cst M' R.2.1 R.2.2) 5 3 0) = some (nI (cnM R.2.1 5), N1) := by
      unfold f_X5_takeNewValues
      rw [t1]
    have e11 : N1.1 11 = M.1 11 := by rw [t2 11 (by decide), up2_ne (by decide), Cst_ne (by decide) (by decide), f3 11 (by decide)]
    obtain ⟨N', b1, told, b2, b3⟩ := hmod N1 e11 (by rw [t2 81 (by decide), up2_ne (by decide), Cst_ne (by decide) (by decide), f3 81 (by decide)])
    rw [if_neg q] at b3
    have hNt : NV told := fun w hw => by rw [← b2 w hw]; exact hNV w hw
    obtain ⟨N2, u1, u2, u3⟩ := l_takeM (f := M.1 80) hNt (-1) 5 0 y (up2 (Mst N' told R.2.2) 11 24 0) rfl (by rw [up2_ne (by decide), Mst_97]) (by rw [up2_ne (by decide), Mst_ne (by decide) (by decide), b1 80 (by decide), t2 80 (by decide), up2_ne (by decide), Cst_ne (by decide) (by decide), f3 80 (by decide)]; rfl)
    rw [← hy, show nI (cnM told 0) = 0 from rfl, show nI 0 = 0 from rfl] at u1
    refine ⟨nI (cnM R.2.1 5), N1, N2, ?_, ?_, ?_⟩
    · unfold f_X10_read f_X5_takeTape
      rw [hcl, bE_s, bM_e, jn_e, if_neg q, htk, bE_s, bE_s]
    · unfold f_X11_read
      rw [b3, bE_s, bM_e, if_pos m1_neg, u1, cnM_congr b2]
    · refine inv_read hI (tk_U hI.u hNV 5 (Nat.le_refl 5)) (fun r h1 h2 h3 h4 h5 h6 => ?_) ?_ ?_ (fun s h1 h2 => ?_) ?_ ?_
      · rw [u2 r h5, up2_ne h2, Mst_ne h6 h2, b1 r h6, t2 r h3, up2_ne h1, Cst_ne h4 h1, f3 r h4]
      · rw [u2 5 (by decide), up2_ne (by decide), Mst_ne (by decide) (by decide), b1 5 (by decide), t2 5 (by decide), up2_same, upd_s]
      · rw [u2 11 (by decide), up2_same, upd_s]
      · rw [u2 11 (by decide), up2_same, upd_n h1]
        show upd (N'.1 11) 44 _ s = _
        rw [upd_n h2, b1 11 (by decide), e11]
      · rw [u2 30 (by decide), up2_ne (by decide), Mst_ne (by decide) (by decide), b1 30 (by decide), t3]
      · rw [u3]; exact (tk_congr b2 5 (Nat.le_refl 5)).symm
theorem step_all : StepAll Inv := fun M hI => ⟨st_element hI, st_as hI, st_allow hI, st_film hI, st_habit hI, st_cycle hI, st_normal hI, st_of hI, st_job hI, st_part hI, st_set hI, st_change hI, st_move hI, st_rate hI, st_worth hI, st_week hI, st_feed hI, st_read hI, st_rule hI, st_work hI, st_wait hI, st_learner hI, st_earned hI, st_pay hI, st_cause hI, st_pool hI, st_efficiency hI, st_looser hI, st_order hI, st_slow hI, st_tell hI, st_check hI, st_count hI, st_found hI⟩
theorem pure_part : ∃ Inv : Mem → Prop, Inv M0 ∧ StepAll Inv := ⟨Inv, inv_0, step_all⟩
