/-! READ: the model -/
theorem m5 (r i : Nat) : (5 : Int32) * nI r + nI i = nI (5 * r + i) := by
  rw [show (5 : Int32) = nI 5 from rfl, pk_mul, nI_add]
def Mst (M : Mem) (told : Nat → Int32) (P : Nat) : Mem := (fun k => if k = 97 then told else if k = 11 then upd (M.1 11) 44 (nI P) else M.1 k, M.2)
theorem Mst_97 (M : Mem) (told : Nat → Int32) (P : Nat) : (Mst M told P).1 97 = told := rfl
theorem Mst_44 (M : Mem) (told : Nat → Int32) (P : Nat) : (Mst M told P).1 11 44 = nI P := rfl
theorem Mst_24 (M : Mem) (told : Nat → Int32) (P : Nat) : (Mst M told P).1 11 24 = M.1 11 24 := rfl
theorem Mst_ne {M : Mem} {told : Nat → Int32} {P q : Nat} (h1 : q ≠ 97) (h2 : q ≠ 11) : (Mst M told P).1 q = M.1 q := by
  show (if q = 97 then told else if q = 11 then upd (M.1 11) 44 (nI P) else M.1 q) = M.1 q
  rw [if_neg h1, if_neg h2]
theorem Mst_p (M : Mem) (told : Nat → Int32) (P Q : Nat) : up2 (Mst M told P) 11 44 (nI Q) = Mst M told Q := by
  refine Prod.ext ?_ rfl
  funext k
  show (if k = 11 then upd (upd (M.1 11) 44 (nI P)) 44 (nI Q) else (if k = 97 then told else if k = 11 then upd (M.1 11) 44 (nI P) else M.1 k)) = (if k = 97 then told else if k = 11 then upd (M.1 11) 44 (nI Q) else M.1 k)
  by_cases e : k = 11
  · rw [if_pos e, if_neg (show ¬ k = 97 by omega), if_pos e]
    funext s
    by_cases c : s = 44
    · rw [c, upd_s, upd_s]
    · rw [upd_n c, upd_n c, upd_n c]
  · rw [if_neg e, if_neg e, if_neg e]
theorem Mst_n (M : Mem) (told : Nat → Int32) (P w : Nat) (v : Int32) : up2 (Mst M told P) 97 w v = Mst M (upd told w v) P := by
  refine Prod.ext ?_ rfl
  funext k
  show (if k = 97 then upd told w v else (if k = 97 then told else if k = 11 then upd (M.1 11) 44 (nI P) else M.1 k)) = (if k = 97 then upd told w v else if k = 11 then upd (M.1 11) 44 (nI P) else M.1 k)
  by_cases e : k = 97
  · rw [if_pos e, if_pos e]
  · rw [if_neg e, if_neg e, if_neg e]
theorem Mst_0 (M : Mem) (P : Nat) : up2 M 11 44 (nI P) = Mst M (M.1 97) P := by
  refine Prod.ext ?_ rfl
  funext k
  show (if k = 11 then upd (M.1 11) 44 (nI P) else M.1 k) = (if k = 97 then M.1 97 else if k = 11 then upd (M.1 11) 44 (nI P) else M.1 k)
  by_cases e : k = 97
  · rw [if_neg (show ¬ k = 11 by omega), if_pos e, e]
  · rw [if_neg e]
theorem Cst_0 (M : Mem) (P : Nat) : up2 M 5 4 (nI P) = Cst M (M.1 31) P := by
  refine Prod.ext ?_ rfl
  funext k
  show (if k = 5 then upd (M.1 5) 4 (nI P) else M.1 k) = (if k = 31 then M.1 31 else if k = 5 then upd (M.1 5) 4 (nI P) else M.1 k)
  by_cases e : k = 31
  · rw [if_neg (show ¬ k = 5 by omega), if_pos e, e]
  · rw [if_neg e]
theorem e_here {M : Mem} {L P : Nat} {told : Nat → Int32} (eL : M.1 11 24 = nI L) (hL : L ≤ 60) (hP : P ≤ 100) : f_X11_here (Mst M told P) = some (if P < L then M.1 81 P else -1, Mst M told P) := by
  unfold f_X11_here
  rw [jn_e, Mst_24, Mst_44, eL]
  by_cases q : P < L
  · rw [if_neg (nI_ge q (by omega)), gV_nI (show P < 60 by omega) (by decide), nI_clamp (by omega), Mst_ne (by decide) (by decide), if_pos q]
  · rw [if_pos (nI_le (by omega) (by omega)), if_neg q]
def sw (told ch : Nat → Int32) (k w : Nat) : Int32 := if told w = -1 ∧ k ≤ al ch w then 1 else 0
theorem mk5_lt (W : Nat → Int32) {a : Nat} (h : a ≤ 5) : mkN W a < 32 := by
  have h1 := mkN_lt W a
  have h2 : 2 ^ a ≤ 2 ^ 5 := Nat.pow_le_pow_right (by decide) h
  omega
theorem l_wh4 {M : Mem} {told ch : Nat → Int32} {P : Nat} (hN : NV told) (K : Int32 → Int32 → Mem → Option Ret) : ∀ (d a k : Nat), a + d = 5 → f_X11_wordHere_L4 (k + (d + 1)) (nI (mkN (sw told ch 0) a)) (nI a) (Mst M told P) K = K (nI (mkN (sw told ch 0) 5)) (nI 5) (Mst M told P)
  | 0, a, k, hh => by
    have : a = 5 := by omega
    subst this
    rw [show k + (0 + 1) = k + 1 from rfl, f_X11_wordHere_L4, if_pos (show (5 : Int32) ≤ nI 5 by decide)]
  | d + 1, a, k, hh => by
    have ih := l_wh4 (M := M) (P := P) (ch := ch) hN K d (a + 1) k (by omega)
    rw [mkN_s] at ih
    rw [show k + (d + 1 + 1) = (k + (d + 1)) + 1 from rfl, f_X11_wordHere_L4, if_neg (show ¬ (5 : Int32) ≤ nI a from nI_ge (b := 5) (by omega) (by decide)), gV_nI (show a < 5 by omega) (by decide), nI_clamp (show a < 2 ^ 31 by omega), Mst_97, jn_ite, bI_e, shl_n a (by omega), nI_1]
    rcases hN a (by omega) with e | ⟨x, hx, e⟩
    · rw [if_neg (show ¬ sw told ch 0 a = 0 by unfold sw; rw [if_pos ⟨e, Nat.zero_le _⟩]; exact one_ne0)] at ih
      rw [e, if_neg m1_nge, or_mk (mkN_lt _ a)]
      exact ih
    · have hx2 : x < 2 ^ 31 := by split at hx <;> omega
      rw [if_pos (show sw told ch 0 a = 0 by unfold sw; rw [if_neg (fun w => nI_ne_m1 hx2 (e.symm.trans w.1))]), Nat.add_zero] at ih
      rw [e, if_pos (nI_pos' hx2), or_n0]
      exact ih
theorem l_wh46 {M : Mem} {told : Nat → Int32} {L P k : Nat} (eL : M.1 11 24 = nI L) (hL : L ≤ 60) (hP : P ≤ 60) (hk : k < 5) (K : Int32 → Int32 → Mem → Option Ret) : ∀ (d a z : Nat), a + d = 5 → f_X11_wordHere_L46 (nI (mkN (sw told (chf (M.1 81) L P) k) 5)) (nI k) (z + (d + 1)) (nI (mkN (sw told (chf (M.1 81) L P) (k + 1)) a)) (nI a) (Mst M told (P + k)) K = K (nI (mkN (sw told (chf (M.1 81) L P) (k + 1)) 5)) (nI 5) (Mst M told (P + k))
  | 0, a, z, hh => by
    have : a = 5 := by omega
    subst this
    rw [show z + (0 + 1) = z + 1 from rfl, f_X11_wordHere_L46, if_pos (show (5 : Int32) ≤ nI 5 by decide)]
  | d + 1, a, z, hh => by
    have ih := l_wh46 (told := told) eL hL hP hk K d (a + 1) z (by omega)
    rw [mkN_s (sw told (chf (M.1 81) L P) (k + 1)) a] at ih
    have hb := mk5_lt (sw told (chf (M.1 81) L P) k) (Nat.le_refl 5)
    have g25 : ∀ y : Option Ret, gV (nI (5 * a + k)) 25 y = y := fun y => gV_nI (by omega) (by decide)
    have hwl := wl_4 a (by omega)
    have hal := al_le (chf (M.1 81) L P) a
    have hak := al_k (chf (M.1 81) L P) a k
    have hch : (if P + k < L then M.1 81 (P + k) else -1) = chf (M.1 81) L P k := rfl
    have hwp := wc_pos a (by omega) k hk
    rw [show z + (d + 1 + 1) = (z + (d + 1)) + 1 from rfl, f_X11_wordHere_L46, if_neg (show ¬ (5 : Int32) ≤ nI a from nI_ge (b := 5) (by omega) (by decide)), m5, nI_clamp (show 5 * a + k < 2 ^ 31 by omega), e_here eL hL (show P + k ≤ 100 by omega), bitN (by omega) (show a < 32 by omega), mkN_bit, if_pos (show a < 5 by omega), shl_n a (by omega), hch, show tbW (5 * a + k) = wcw a k from rfl]
    simp only [jn, bI, bE_s, g25, nI_1, if_true, one_ne0, if_false]
    by_cases S : told a = -1 ∧ k ≤ al (chf (M.1 81) L P) a
    · have hs1 : ¬ sw told (chf (M.1 81) L P) k a = 0 := by unfold sw; rw [if_pos S]; exact one_ne0
      rw [if_neg hs1, if_pos (show nI 1 = 1 from rfl)]
      by_cases c1 : wcw a k ≤ 0
      · have hn : ¬ (told a = -1 ∧ k + 1 ≤ al (chf (M.1 81) L P) a) := fun w => by have := hwp.mp c1; omega
        rw [if_pos (show sw told (chf (M.1 81) L P) (k + 1) a = 0 by unfold sw; rw [if_neg hn]), Nat.add_zero] at ih
        rw [if_pos c1, or_n0]
        exact ih
      · rw [if_neg c1]
        by_cases c2 : chf (M.1 81) L P k = wcw a k
        · have hy : told a = -1 ∧ k + 1 ≤ al (chf (M.1 81) L P) a := ⟨S.1, hak.mpr ⟨S.2, Nat.not_le.mp (fun u => c1 (hwp.mpr u)), c2⟩⟩
          rw [if_neg (show ¬ sw told (chf (M.1 81) L P) (k + 1) a = 0 by unfold sw; rw [if_pos hy]; exact one_ne0)] at ih
          rw [if_pos c2, or_mk (mkN_lt _ a)]
          exact ih
        · have hn : ¬ (told a = -1 ∧ k + 1 ≤ al (chf (M.1 81) L P) a) := fun w => c2 (hak.mp w.2).2.2
          rw [if_pos (show sw told (chf (M.1 81) L P) (k + 1) a = 0 by unfold sw; rw [if_neg hn]), Nat.add_zero] at ih
          rw [if_neg c2, or_n0]
          exact ih
    · have hs1 : sw told (chf (M.1 81) L P) k a = 0 := by unfold sw; rw [if_neg S]
      have hn : ¬ (told a = -1 ∧ k + 1 ≤ al (chf (M.1 81) L P) a) := fun w => S ⟨w.1, by omega⟩
      rw [if_pos (show sw told (chf (M.1 81) L P) (k + 1) a = 0 by unfold sw; rw [if_neg hn]), Nat.add_zero] at ih
      rw [if_pos hs1, if_neg (show ¬ nI 0 = 1 by decide), or_n0]
      exact ih
theorem l_wh142 {N : Mem} {told ch : Nat → Int32} {k : Nat} (hk : k < 5) (v3 : Int32) : ∀ (d a z : Nat), a + d = 5 → (∀ w, w < a → told w = -1 → k + 1 ≤ al ch w → wlen w ≠ k + 1) → (∃ w, w < 5 ∧ told w = -1 ∧ al ch w = wlen w ∧ wlen w = k + 1 ∧ ∀ K : Int32 → Mem → Option Ret, f_X11_wordHere_L142 (nI (mkN (sw told ch (k + 1)) 5)) (nI k) v3 (z + (d + 1)) (nI a) N K = some (nI w, N)) ∨ ((∀ w, w < 5 → told w = -1 → k + 1 ≤ al ch w → wlen w ≠ k + 1) ∧ ∀ K : Int32 → Mem → Option Ret, f_X11_wordHere_L142 (nI (mkN (sw told ch (k + 1)) 5)) (nI k) v3 (z + (d + 1)) (nI a) N K = K (nI 5) N)
  | 0, a, z, hh, hno => by
    have : a = 5 := by omega
    subst this
    refine Or.inr ⟨hno, fun K => ?_⟩
    rw [show z + (0 + 1) = z + 1 from rfl, f_X11_wordHere_L142, if_pos (show (5 : Int32) ≤ nI 5 by decide)]
  | d + 1, a, z, hh, hno => by
    have hb := mk5_lt (sw told ch (k + 1)) (Nat.le_refl 5)
    have hwl := wl_4 a (by omega)
    have hal := al_le ch a
    have hun : ∀ K : Int32 → Mem → Option Ret, f_X11_wordHere_L142 (nI (mkN (sw told ch (k + 1)) 5)) (nI k) v3 (z + (d + 1) + 1) (nI a) N K = if nI (if sw told ch (k + 1) a = 0 then 0 else 1) = 1 then (if nI k = 4 then some (nI a, N) else gV (nI (5 * a + k + 1)) 25 (if tbW (5 * a + k + 1) = 0 then some (nI a, N) else f_X11_wordHere_L142 (nI (mkN (sw told ch (k + 1)) 5)) (nI k) v3 (z + (d + 1)) (nI (a + 1)) N K)) else f_X11_wordHere_L142 (nI (mkN (sw told ch (k + 1)) 5)) (nI k) v3 (z + (d + 1)) (nI (a + 1)) N K := by
      intro K
      rw [f_X11_wordHere_L142, if_neg (show ¬ (5 : Int32) ≤ nI a from nI_ge (b := 5) (by omega) (by decide)), bitN (by omega) (show a < 32 by omega), mkN_bit, if_pos (show a < 5 by omega), m5, nI_1, nI_1, nI_clamp (show 5 * a + k + 1 < 2 ^ 31 by omega)]
    by_cases S : told a = -1 ∧ k + 1 ≤ al ch a
    · have hs1 : ¬ sw told ch (k + 1) a = 0 := by unfold sw; rw [if_pos S]; exact one_ne0
      by_cases c4 : k = 4
      · refine Or.inl ⟨a, by omega, S.1, by omega, by omega, fun K => ?_⟩
        rw [show z + (d + 1 + 1) = (z + (d + 1)) + 1 from rfl, hun, if_neg hs1, if_pos (show nI 1 = 1 from rfl), c4, if_pos (show nI 4 = 4 from rfl)]
      · have hn4 : ¬ nI k = 4 := fun e => c4 ((nI_eq (b := 4) (by omega) (by decide)).mp e)
        have hwe := wc_end a (by omega) k (by omega)
        have hwe : tbW (5 * a + k + 1) = 0 ↔ wlen a ≤ k + 1 := hwe
        by_cases c5 : tbW (5 * a + k + 1) = 0
        · have := hwe.mp c5
          refine Or.inl ⟨a, by omega, S.1, by omega, by omega, fun K => ?_⟩
          rw [show z + (d + 1 + 1) = (z + (d + 1)) + 1 from rfl, hun, if_neg hs1, if_pos (show nI 1 = 1 from rfl), if_neg hn4, gV_nI (show 5 * a + k + 1 < 25 by omega) (by decide), if_pos c5]
        · have hne : wlen a ≠ k + 1 := fun e => c5 (hwe.mpr (by omega))
          have hun2 : ∀ K : Int32 → Mem → Option Ret, f_X11_wordHere_L142 (nI (mkN (sw told ch (k + 1)) 5)) (nI k) v3 (z + (d + 1 + 1)) (nI a) N K = f_X11_wordHere_L142 (nI (mkN (sw told ch (k + 1)) 5)) (nI k) v3 (z + (d + 1)) (nI (a + 1)) N K := by
            intro K
            rw [show z + (d + 1 + 1) = (z + (d + 1)) + 1 from rfl, hun, if_neg hs1, if_pos (show nI 1 = 1 from rfl), if_neg hn4, gV_nI (show 5 * a + k + 1 < 25 by omega) (by decide), if_neg c5]
          have ih := l_wh142 (N := N) (told := told) (ch := ch) hk v3 d (a + 1) z (by omega) (fun w hw h1 h2 => by
            by_cases e : w = a
            · rw [e]; exact hne
            · exact hno w (by omega) h1 h2)
          rcases ih with ⟨w, w1, w2, w3, w4, w5⟩ | ⟨w1, w2⟩
          · exact Or.inl ⟨w, w1, w2, w3, w4, fun K => (hun2 K).trans (w5 K)⟩
          · exact Or.inr ⟨w1, fun K => (hun2 K).trans (w2 K)⟩
    · have hs1 : sw told ch (k + 1) a = 0 := by unfold sw; rw [if_neg S]
      have hun2 : ∀ K : Int32 → Mem → Option Ret, f_X11_wordHere_L142 (nI (mkN (sw told ch (k + 1)) 5)) (nI k) v3 (z + (d + 1 + 1)) (nI a) N K = f_X11_wordHere_L142 (nI (mkN (sw told ch (k + 1)) 5)) (nI k) v3 (z + (d + 1)) (nI (a + 1)) N K := by
        intro K
        rw [show z + (d + 1 + 1) = (z + (d + 1)) + 1 from rfl, hun, if_pos hs1, if_neg (show ¬ nI 0 = 1 by decide)]
      have ih := l_wh142 (N := N) (told := told) (ch := ch) hk v3 d (a + 1) z (by omega) (fun w hw h1 h2 => by
        by_cases e : w = a
        · rw [e] at h1 h2; exact absurd ⟨h1, h2⟩ S
        · exact hno w (by omega) h1 h2)
      rcases ih with ⟨w, w1, w2, w3, w4, w5⟩ | ⟨w1, w2⟩
      · exact Or.inl ⟨w, w1, w2, w3, w4, fun K => (hun2 K).trans (w5 K)⟩
      · exact Or.inr ⟨w1, fun K => (hun2 K).trans (w2 K)⟩
theorem l_wh36 {M : Mem} {told : Nat → Int32} {L P : Nat} (eL : M.1 11 24 = nI L) (hL : L ≤ 60) (hP : P ≤ 60) (K : Int32 → Int32 → Mem → Option Ret) : ∀ (d k z : Nat), k + d = 5 → (k = 0 ∨ ∃ w, w < 5 ∧ told w = -1 ∧ k ≤ al (chf (M.1 81) L P) w) → (∀ w, w < 5 → told w = -1 → wlen w ≤ k → al (chf (M.1 81) L P) w < wlen w) → ∃ (r : Int32) (n : Nat), f_X11_wordHere_L36 (z + (d + 1)) (nI (mkN (sw told (chf (M.1 81) L P) k) 5)) (nI k) (Mst M told (P + k)) K = some (r, Mst M told (P + n)) ∧ WR (fun w => told w = -1) (chf (M.1 81) L P) r n
  | 0, k, z, hh, h1, h2 => by
    exfalso
    rcases h1 with e | ⟨w, w1, w2, w3⟩
    · omega
    · have := wl_4 w w1
      have := al_le (chf (M.1 81) L P) w
      have := h2 w w1 w2 (by omega)
      omega
  | d + 1, k, z, hh, h1, h2 => by
    obtain ⟨y, hy⟩ := FU_pos (d := 5) (by omega)
    have l46 := fun K => l_wh46 (told := told) eL hL hP (show k < 5 by omega) K 5 0 y rfl
    rw [← hy, show nI (mkN (sw told (chf (M.1 81) L P) (k + 1)) 0) = 0 from rfl, show nI 0 = 0 from rfl] at l46
    have hb := mk5_lt (sw told (chf (M.1 81) L P) (k + 1)) (Nat.le_refl 5)
    by_cases q : mkN (sw told (chf (M.1 81) L P) (k + 1)) 5 = 0
    · have hno : ∀ w, w < 5 → told w = -1 → al (chf (M.1 81) L P) w ≤ k := by
        intro w hw ht
        have hbit := mkN_bit (sw told (chf (M.1 81) L P) (k + 1)) (b := w) (c := 5)
        rw [q, if_pos hw, Nat.zero_div] at hbit
        refine Nat.not_lt.mp (fun u => ?_)
        rw [if_neg (show ¬ sw told (chf (M.1 81) L P) (k + 1) w = 0 by unfold sw; rw [if_pos ⟨ht, u⟩]; exact one_ne0)] at hbit
        omega
      refine ⟨-1, k, ?_, Or.inr ⟨rfl, fun w hw ht => ⟨?_, hno w hw ht⟩, ?_⟩⟩
      · rw [show z + (d + 1 + 1) = (z + (d + 1)) + 1 from rfl, f_X11_wordHere_L36, if_neg (show ¬ (5 : Int32) ≤ nI k from nI_ge (b := 5) (by omega) (by decide)), l46, q, if_pos (show nI 0 = 0 from rfl)]
      · have := hno w hw ht
        by_cases c : wlen w ≤ k
        · exact h2 w hw ht c
        · omega
      · rcases h1 with e | ⟨w, w1, w2, w3⟩
        · exact Or.inl e
        · have := hno w w1 w2
          exact Or.inr ⟨w, w1, w2, by omega⟩
    · have hne : ∃ w, w < 5 ∧ told w = -1 ∧ k + 1 ≤ al (chf (M.1 81) L P) w := Classical.byContradiction (fun u => q (smN_z (fun i hi => if_pos (by
        unfold sw
        rw [if_neg (fun w => u ⟨i, hi, w.1, w.2⟩)]))))
      have l142 := l_wh142 (N := Mst M told (P + (k + 1))) (told := told) (ch := chf (M.1 81) L P) (show k < 5 by omega) (nI (mkN (sw told (chf (M.1 81) L P) (k + 1)) 5)) 5 0 y rfl (fun w hw => absurd hw (Nat.not_lt_zero w))
      rw [← hy, show nI 0 = 0 from rfl] at l142
      rcases l142 with ⟨w, w1, w2, w3, w4, w5⟩ | ⟨w1, w2⟩
      · refine ⟨nI w, k + 1, ?_, Or.inl ⟨w, w1, w2, w3, rfl, w4.symm⟩⟩
        rw [show z + (d + 1 + 1) = (z + (d + 1)) + 1 from rfl, f_X11_wordHere_L36, if_neg (show ¬ (5 : Int32) ≤ nI k from nI_ge (b := 5) (by omega) (by decide)), l46, if_neg (nI_ne0 (by omega) (by omega)), bM_e, Mst_44, nI_1, Mst_p, show P + k + 1 = P + (k + 1) from rfl, w5]
      · obtain ⟨r, n, e1, e2⟩ := l_wh36 (told := told) eL hL hP K d (k + 1) z (by omega) (Or.inr hne) (fun w hw ht hl => by
          have := al_le (chf (M.1 81) L P) w
          by_cases c : wlen w ≤ k
          · exact h2 w hw ht c
          · refine Nat.lt_of_le_of_ne this (fun e => ?_)
            exact w1 w hw ht (by omega) (by omega))
        refine ⟨r, n, ?_, e2⟩
        rw [show z + (d + 1 + 1) = (z + (d + 1)) + 1 from rfl, f_X11_wordHere_L36, if_neg (show ¬ (5 : Int32) ≤ nI k from nI_ge (b := 5) (by omega) (by decide)), l46, if_neg (nI_ne0 (by omega) (by omega)), bM_e, Mst_44, nI_1, Mst_p, show P + k + 1 = P + (k + 1) from rfl, w2, nI_1]
        exact e1
theorem e_wordHere {M : Mem} {told : Nat → Int32} {L P : Nat} (eL : M.1 11 24 = nI L) (hL : L ≤ 60) (hP : P ≤ 60) (hN : NV told) : f_X11_wordHere (Mst M told P) = some ((rdW (M.1 81) L told P).1, Mst M told (P + (rdW (M.1 81) L told P).2)) := by
  obtain ⟨y, hy⟩ := FU_pos (d := 5) (by omega)
  have l4 := fun K => l_wh4 (M := M) (P := P) (ch := chf (M.1 81) L P) hN K 5 0 y rfl
  rw [← hy, show nI (mkN (sw told (chf (M.1 81) L P) 0) 0) = 0 from rfl, show nI 0 = 0 from rfl] at l4
  obtain ⟨r, n, e1, e2⟩ := l_wh36 (told := told) eL hL hP (fun w21 w22 M23 => some ((-1 : Int32), M23)) 5 0 y rfl (Or.inl rfl) (fun w hw _ h => by have := wl_4 w hw; omega)
  rw [← hy, show nI 0 = 0 from rfl, Nat.add_zero] at e1
  obtain ⟨h1, h2⟩ := WR_uniq e2 (rdW_WR (M.1 81) L told P)
  unfold f_X11_wordHere
  rw [l4, e1, h1, h2]
theorem l_numM {M : Mem} {L : Nat} {told : Nat → Int32} (eL : M.1 11 24 = nI L) (hL : L ≤ 60) {P0 : Nat} (hP : P0 ≤ 90) (r6 : Int32) (K : Int32 → Int32 → Mem → Option Ret) : ∀ (d a k v : Nat), a + d = 3 → hvN a v → f_X11_readAll_L73 r6 (k + (d + 1)) (nI v) (nI a) (Mst M told (P0 + a)) K = K (nI (rnN (M.1 81) L d v (P0 + a)).1) (nI ((rnN (M.1 81) L d v (P0 + a)).2 - P0)) (Mst M told (rnN (M.1 81) L d v (P0 + a)).2)
  | 0, a, k, v, hh, hv => by
    have : a = 3 := by omega
    subst this
    rw [show k + (0 + 1) = k + 1 from rfl, f_X11_readAll_L73, if_pos (show (3 : Int32) ≤ nI 3 by decide), show rnN (M.1 81) L 0 v (P0 + 3) = (v, P0 + 3) from rfl, show P0 + 3 - P0 = 3 by omega]
  | d + 1, a, k, v, hh, hv => by
    have hsub : P0 + a - P0 = a := by omega
    rw [show k + (d + 1 + 1) = (k + (d + 1)) + 1 from rfl, f_X11_readAll_L73, if_neg (show ¬ (3 : Int32) ≤ nI a from nI_ge (b := 3) (by omega) (by decide)), e_here eL hL (show P0 + a ≤ 100 by omega), bE_s, e_X11_isIn, bE_s, rnN_s]
    by_cases q : P0 + a < L
    · rw [if_pos q]
      by_cases q2 : wi (M.1 81 (P0 + a)) 48 57 = 0
      · rw [if_pos q2, if_neg (show ¬ (P0 + a < L ∧ ¬ wi (M.1 81 (P0 + a)) 48 57 = 0) from fun w => w.2 q2), hsub]
      · obtain ⟨b, b1, b2, b3, b4, b5⟩ := hvN_s hv (by omega) q2
        have hval : 10 * nI v + M.1 81 (P0 + a) - 48 = nI (10 * v + (b - 48)) := by
          rw [b3, show (10 : Int32) = nI 10 from rfl, pk_mul, nI_add, show (48 : Int32) = nI 48 from rfl, pk_sub (by omega)]
          congr 1
          omega
        rw [if_neg q2, if_pos (show P0 + a < L ∧ ¬ wi (M.1 81 (P0 + a)) 48 57 = 0 from ⟨q, q2⟩), b4, e_here eL hL (show P0 + a ≤ 100 by omega), bE_s, if_pos q, bI_e, hval, bM_e, Mst_44, nI_1, nI_1, Mst_p]
        exact l_numM eL hL hP r6 K d (a + 1) k (10 * v + (b - 48)) (by omega) b5
    · rw [if_neg q, if_pos (show wi (-1) 48 57 = 0 by decide), if_neg (show ¬ (P0 + a < L ∧ ¬ wi (M.1 81 (P0 + a)) 48 57 = 0) from fun w => q w.1), hsub]
theorem here_eq {t : Nat → Int32} {L P : Nat} {c : Int32} (hc : ¬ (-1 : Int32) = c) : ((if P < L then t P else -1) = c) ↔ (P < L ∧ t P = c) := by
  by_cases q : P < L
  · rw [if_pos q]; exact ⟨fun h => ⟨q, h⟩, fun h => h.2⟩
  · rw [if_neg q]; exact ⟨fun h => absurd h hc, fun h => absurd h.1 q⟩
theorem cnN_le (new : Nat → Int32) : cnN new ≤ 5 := by
  have := smN_le (g := fun w => if new w = -1 then 0 else 1) (B := 1) (n := 5) (fun b _ => by split <;> omega)
  unfold cnN
  omega
theorem l_all {M : Mem} {L : Nat} (eL : M.1 11 24 = nI L) (hL : L ≤ 60) : ∀ (d k : Nat) (told : Nat → Int32) (P : Nat) (v1 : Int32), cnN told + d = 6 → NV told → P ≤ 60 → f_X11_readAll_L25 (k + (d + 1)) v1 (Mst M told P) (fun w27 M28 => some ((-1 : Int32), M28)) = some (if (rdAll (M.1 81) L d told P).1 = 0 then nI (rdAll (M.1 81) L d told P).2.2 else -1, Mst M (rdAll (M.1 81) L d told P).2.1 (rdAll (M.1 81) L d told P).2.2)
  | 0, k, told, P, v1, hc, hN, hP => by
    have := cnN_le told
    omega
  | d + 1, k, told, P, v1, hc, hN, hP => by
    have hn := WR_5 (rdW_WR (M.1 81) L told P)
    rw [show k + (d + 1 + 1) = (k + (d + 1)) + 1 from rfl, f_X11_readAll_L25, Mst_24, Mst_44, eL, rdAll_s]
    by_cases q : L ≤ P
    · rw [if_pos (nI_le q (by omega)), if_pos q, if_neg (show ¬ (1 : Int32) = 0 from one_ne0)]
    · have ihS : ¬ (rdCl (M.1 81) L told P).1 = 0 → ∀ v1 : Int32, f_X11_readAll_L25 (k + (d + 1)) v1 (Mst M (rdCl (M.1 81) L told P).2.1 (rdCl (M.1 81) L told P).2.2) (fun w27 M28 => some ((-1 : Int32), M28)) = _ := fun h v1 => by
        obtain ⟨-, -, -, -, -, -, -, h6⟩ := rdCl_ok h
        exact l_all eL hL d k _ _ v1 (by rw [rdCl_cn h]; omega) (rdCl_NV h hN) (by omega)
      rw [if_neg (nI_ge (by omega) (by omega)), if_neg q, e_wordHere eL hL hP hN, bE_s]
      rcases rdW_or (M.1 81) L told P with r1 | ⟨w, w1, w2, w3⟩
      · have hC : rdCl (M.1 81) L told P = (0, told, P + (rdW (M.1 81) L told P).2) := by
          unfold rdCl rdC2
          rw [if_pos r1]
        rw [hC, r1, if_pos m1_neg, if_pos rfl, if_pos rfl, Mst_44]
      · rw [w2, if_neg (nI_pos (show w < 2 ^ 31 by omega)), e_here eL hL (show P + (rdW (M.1 81) L told P).2 ≤ 100 by omega), bE_s]
        by_cases q2 : P + (rdW (M.1 81) L told P).2 < L ∧ M.1 81 (P + (rdW (M.1 81) L told P).2) = 32
        · have hC : rdCl (M.1 81) L told P = rdC3 (M.1 81) L told w (P + (rdW (M.1 81) L told P).2 + 1) := by
            unfold rdCl rdC2
            rw [w2, if_neg (nI_ne_m1 (by omega)), if_pos q2, nI_clamp (by omega)]
          have hb := rnN_b (t := M.1 81) (L := L) 3 0 0 (P + (rdW (M.1 81) L told P).2 + 1) rfl hv0
          obtain ⟨y, hy⟩ := FU_pos (d := 3) (by omega)
          have l73 := fun K => l_numM (M := M) (told := told) eL hL (P0 := P + (rdW (M.1 81) L told P).2 + 1) (by omega) (nI w) K 3 0 y 0 rfl hv0
          rw [← hy, show nI 0 = 0 from rfl, Nat.add_zero] at l73
          rw [if_pos ((here_eq (show ¬ (-1 : Int32) = 32 by decide)).mpr q2), bM_e, Mst_44, nI_1, Mst_p, l73]
          unfold rdC3 at hC
          by_cases q3 : (rnN (M.1 81) L 3 0 (P + (rdW (M.1 81) L told P).2 + 1)).2 = P + (rdW (M.1 81) L told P).2 + 1
          · rw [if_pos q3] at hC
            rw [hC, q3, Nat.sub_self, if_pos (show nI 0 = 0 from rfl), if_pos rfl, if_pos rfl, Mst_44]
          · rw [if_neg q3] at hC
            have hG : (if nI w = 1 then (52 : Int32) else 100) = tbG w := by
              rw [tbG_e w w1]
              by_cases e : w = 1
              · rw [if_pos e, e, if_pos (show nI 1 = 1 from rfl)]
              · rw [if_neg e, if_neg (show ¬ nI w = 1 from fun u => e ((nI_eq (b := 1) (by omega) (by decide)).mp u))]
            rw [if_neg (nI_ne0 (by omega) (by omega)), jn_ite, hG]
            by_cases q4 : tbG w < nI (rnN (M.1 81) L 3 0 (P + (rdW (M.1 81) L told P).2 + 1)).1
            · rw [if_pos q4] at hC
              rw [hC, if_pos q4, if_pos rfl, if_pos rfl, Mst_44]
            · rw [if_neg q4] at hC
              rw [if_neg q4, e_here eL hL (show (rnN (M.1 81) L 3 0 (P + (rdW (M.1 81) L told P).2 + 1)).2 ≤ 100 by omega), bE_s]
              by_cases q5 : (rnN (M.1 81) L 3 0 (P + (rdW (M.1 81) L told P).2 + 1)).2 < L ∧ M.1 81 (rnN (M.1 81) L 3 0 (P + (rdW (M.1 81) L told P).2 + 1)).2 = 59
              · rw [if_pos q5] at hC
                rw [hC] at ihS
                rw [if_pos ((here_eq (show ¬ (-1 : Int32) = 59 by decide)).mpr q5), bM_e, Mst_44, nI_1, Mst_p, gV_nI w1 (by decide), nI_clamp (show w < 2 ^ 31 by omega), bM_e, Mst_n, hC, if_neg (show ¬ (1 : Int32) = 0 from one_ne0)]
                exact ihS one_ne0 (nI w)
              · rw [if_neg q5] at hC
                rw [if_neg (fun u => q5 ((here_eq (show ¬ (-1 : Int32) = 59 by decide)).mp u)), hC, if_pos rfl, if_pos rfl, Mst_44]
        · have hC : rdCl (M.1 81) L told P = (0, told, P + (rdW (M.1 81) L told P).2) := by
            unfold rdCl rdC2
            rw [w2, if_neg (nI_ne_m1 (by omega)), if_neg q2]
          rw [if_neg (fun u => q2 ((here_eq (show ¬ (-1 : Int32) = 32 by decide)).mp u)), hC, if_pos rfl, if_pos rfl, Mst_44]
