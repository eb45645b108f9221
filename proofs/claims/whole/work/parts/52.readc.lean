/-! READ: the pure reading, and the class -/
def chf (t : Nat → Int32) (L P k : Nat) : Int32 := if P + k < L then t (P + k) else -1
def wlen (w : Nat) : Nat := sLen.getD w 0
def wcw (w k : Nat) : Int32 := tbW (5 * w + k)
theorem wl_4 : ∀ w, w < 5 → 4 ≤ wlen w ∧ wlen w ≤ 5 := by decide +kernel
theorem wc_chr : ∀ w, w < 5 → ∀ k, k < 5 → k < wlen w → chr w (nI k) = wcw w k := by decide +kernel
theorem wc_pos : ∀ w, w < 5 → ∀ k, k < 5 → (wcw w k ≤ 0 ↔ wlen w ≤ k) := by decide +kernel
theorem wc_m1 : ∀ w, w < 5 → ∀ k, k < 5 → ¬ (-1 : Int32) = wcw w k := by decide +kernel
theorem wc_end : ∀ w, w < 5 → ∀ k, k < 4 → (wcw w (k + 1) = 0 ↔ wlen w ≤ k + 1) := by decide +kernel
theorem wc_two : ∀ w, w < 5 → ∀ u, u < 5 → wcw w 0 = wcw u 0 → wcw w 1 = wcw u 1 → w = u := by decide +kernel
theorem sL_wl : ∀ w, w < 5 → sL w = nI (wlen w) := by decide +kernel
theorem tbG_e : ∀ w, w < 5 → tbG w = if w = 1 then 52 else 100 := by decide +kernel
def lead (ch : Nat → Int32) (w : Nat) : Nat → Nat → Nat
  | 0, a => a
  | d + 1, a => if ch a = wcw w a then lead ch w d (a + 1) else a
theorem lead_s (ch : Nat → Int32) (w d a : Nat) : lead ch w (d + 1) a = if ch a = wcw w a then lead ch w d (a + 1) else a := rfl
theorem lead_ge (ch : Nat → Int32) (w : Nat) : ∀ d a, a ≤ lead ch w d a
  | 0, a => Nat.le_refl a
  | d + 1, a => by
    rw [lead_s]
    have := lead_ge ch w d (a + 1)
    split <;> omega
theorem lead_le (ch : Nat → Int32) (w : Nat) : ∀ d a, lead ch w d a ≤ a + d
  | 0, a => Nat.le_refl a
  | d + 1, a => by
    rw [lead_s]
    have := lead_le ch w d (a + 1)
    split <;> omega
theorem lead_k (ch : Nat → Int32) (w : Nat) : ∀ d a k, a ≤ k → (k + 1 ≤ lead ch w d a ↔ k ≤ lead ch w d a ∧ k < a + d ∧ ch k = wcw w k)
  | 0, a, k, h => by
    show (k + 1 ≤ a ↔ k ≤ a ∧ k < a + 0 ∧ ch k = wcw w k)
    constructor
    · intro u; omega
    · rintro ⟨-, h2, -⟩; omega
  | d + 1, a, k, h => by
    rw [lead_s]
    by_cases q : ch a = wcw w a
    · rw [if_pos q]
      have hg := lead_ge ch w d (a + 1)
      by_cases e : k = a
      · rw [e]
        exact ⟨fun _ => ⟨by omega, by omega, q⟩, fun _ => hg⟩
      · rw [lead_k ch w d (a + 1) k (by omega)]
        constructor
        · rintro ⟨h1, h2, h3⟩; exact ⟨h1, by omega, h3⟩
        · rintro ⟨h1, h2, h3⟩; exact ⟨h1, by omega, h3⟩
    · rw [if_neg q]
      constructor
      · intro u; omega
      · rintro ⟨h1, h2, h3⟩
        have e : k = a := by omega
        rw [e] at h3
        exact absurd h3 q
def al (ch : Nat → Int32) (w : Nat) : Nat := lead ch w (wlen w) 0
theorem al_le (ch : Nat → Int32) (w : Nat) : al ch w ≤ wlen w := by
  have := lead_le ch w (wlen w) 0
  unfold al
  omega
theorem al_k (ch : Nat → Int32) (w k : Nat) : k + 1 ≤ al ch w ↔ k ≤ al ch w ∧ k < wlen w ∧ ch k = wcw w k := by
  have := lead_k ch w (wlen w) 0 k (Nat.zero_le k)
  rw [Nat.zero_add] at this
  exact this
theorem al_full {ch : Nat → Int32} {w : Nat} (hw : w < 5) (h : al ch w = wlen w) : ch 0 = wcw w 0 ∧ ch 1 = wcw w 1 := by
  have := wl_4 w hw
  exact ⟨((al_k ch w 0).mp (by omega)).2.2, ((al_k ch w 1).mp (by omega)).2.2⟩
def WR (U : Nat → Prop) (ch : Nat → Int32) (r : Int32) (n : Nat) : Prop := (∃ w, w < 5 ∧ U w ∧ al ch w = wlen w ∧ r = nI w ∧ n = wlen w) ∨ (r = -1 ∧ (∀ w, w < 5 → U w → al ch w < wlen w ∧ al ch w ≤ n) ∧ (n = 0 ∨ ∃ w, w < 5 ∧ U w ∧ al ch w = n))
theorem WR_uniq {U : Nat → Prop} {ch : Nat → Int32} {r r' : Int32} {n n' : Nat} (h : WR U ch r n) (h' : WR U ch r' n') : r = r' ∧ n = n' := by
  rcases h with ⟨w, w1, w2, w3, w4, w5⟩ | ⟨a1, a2, a3⟩
  · rcases h' with ⟨u, u1, u2, u3, u4, u5⟩ | ⟨b1, b2, b3⟩
    · have e : w = u := wc_two w w1 u u1 ((al_full w1 w3).1.symm.trans (al_full u1 u3).1) ((al_full w1 w3).2.symm.trans (al_full u1 u3).2)
      rw [e] at w4 w5
      exact ⟨w4.trans u4.symm, w5.trans u5.symm⟩
    · exact absurd w3 (Nat.ne_of_lt (b2 w w1 w2).1)
  · rcases h' with ⟨u, u1, u2, u3, u4, u5⟩ | ⟨b1, b2, b3⟩
    · exact absurd u3 (Nat.ne_of_lt (a2 u u1 u2).1)
    · refine ⟨a1.trans b1.symm, ?_⟩
      have h1 : n ≤ n' := a3.elim (fun e => by omega) (fun ⟨w, w1, w2, w3⟩ => by have := (b2 w w1 w2).2; omega)
      have h2 : n' ≤ n := b3.elim (fun e => by omega) (fun ⟨w, w1, w2, w3⟩ => by have := (a2 w w1 w2).2; omega)
      omega
theorem WR_5 {U : Nat → Prop} {ch : Nat → Int32} {r : Int32} {n : Nat} (h : WR U ch r n) : n ≤ 5 := by
  rcases h with ⟨w, w1, -, -, -, w5⟩ | ⟨-, -, e | ⟨w, w1, -, w3⟩⟩
  · have := wl_4 w w1; omega
  · omega
  · have := wl_4 w w1
    have := al_le ch w
    omega
def rwL (new ch : Nat → Int32) : Nat → Nat → Nat → Int32 × Nat
  | 0, _, m => (-1, m)
  | d + 1, b, m => if new b = -1 then (if al ch b = wlen b then (nI b, wlen b) else rwL new ch d (b + 1) (if m < al ch b then al ch b else m)) else rwL new ch d (b + 1) m
theorem rwL_s (new ch : Nat → Int32) (d b m : Nat) : rwL new ch (d + 1) b m = if new b = -1 then (if al ch b = wlen b then (nI b, wlen b) else rwL new ch d (b + 1) (if m < al ch b then al ch b else m)) else rwL new ch d (b + 1) m := rfl
theorem rwL_WR {new ch : Nat → Int32} : ∀ d b m, b + d = 5 → (∀ w, w < b → new w = -1 → al ch w < wlen w ∧ al ch w ≤ m) → (m = 0 ∨ ∃ w, w < b ∧ new w = -1 ∧ al ch w = m) → WR (fun w => new w = -1) ch (rwL new ch d b m).1 (rwL new ch d b m).2
  | 0, b, m, hb, h1, h2 => by
    refine Or.inr ⟨rfl, fun w hw => h1 w (by omega), ?_⟩
    rcases h2 with e | ⟨w, w1, w2⟩
    · exact Or.inl e
    · exact Or.inr ⟨w, by omega, w2⟩
  | d + 1, b, m, hb, h1, h2 => by
    rw [rwL_s]
    by_cases q : new b = -1
    · rw [if_pos q]
      by_cases q2 : al ch b = wlen b
      · rw [if_pos q2]; exact Or.inl ⟨b, by omega, q, q2, rfl, rfl⟩
      · rw [if_neg q2]
        have hal := al_le ch b
        refine rwL_WR d (b + 1) _ (by omega) (fun w hw hn => ?_) ?_
        · by_cases e : w = b
          · rw [e]; exact ⟨by omega, by split <;> omega⟩
          · obtain ⟨c1, c2⟩ := h1 w (by omega) hn
            exact ⟨c1, by split <;> omega⟩
        · by_cases c : m < al ch b
          · rw [if_pos c]; exact Or.inr ⟨b, by omega, q, rfl⟩
          · rw [if_neg c]
            rcases h2 with e | ⟨w, w1, w2⟩
            · exact Or.inl e
            · exact Or.inr ⟨w, by omega, w2⟩
    · rw [if_neg q]
      refine rwL_WR d (b + 1) m (by omega) (fun w hw hn => ?_) ?_
      · by_cases e : w = b
        · rw [e] at hn; exact absurd hn q
        · exact h1 w (by omega) hn
      · rcases h2 with e | ⟨w, w1, w2⟩
        · exact Or.inl e
        · exact Or.inr ⟨w, by omega, w2⟩
def rdW (t : Nat → Int32) (L : Nat) (new : Nat → Int32) (P : Nat) : Int32 × Nat := rwL new (chf t L P) 5 0 0
theorem rdW_WR (t : Nat → Int32) (L : Nat) (new : Nat → Int32) (P : Nat) : WR (fun w => new w = -1) (chf t L P) (rdW t L new P).1 (rdW t L new P).2 := rwL_WR 5 0 0 rfl (fun w hw => absurd hw (Nat.not_lt_zero w)) (Or.inl rfl)
theorem rdW_or (t : Nat → Int32) (L : Nat) (new : Nat → Int32) (P : Nat) : (rdW t L new P).1 = -1 ∨ ∃ w, w < 5 ∧ (rdW t L new P).1 = nI w ∧ new w = -1 := by
  rcases rdW_WR t L new P with ⟨w, w1, w2, -, w4, -⟩ | ⟨a1, -⟩
  · exact Or.inr ⟨w, w1, w4, w2⟩
  · exact Or.inl a1
def rnN (t : Nat → Int32) (L : Nat) : Nat → Nat → Nat → Nat × Nat
  | 0, v, P => (v, P)
  | d + 1, v, P => if P < L ∧ ¬ wi (t P) 48 57 = 0 then rnN t L d (10 * v + ((t P).toNatClampNeg - 48)) (P + 1) else (v, P)
theorem rnN_s (t : Nat → Int32) (L d v P : Nat) : rnN t L (d + 1) v P = if P < L ∧ ¬ wi (t P) 48 57 = 0 then rnN t L d (10 * v + ((t P).toNatClampNeg - 48)) (P + 1) else (v, P) := rfl
def hvN (a v : Nat) : Prop := (a = 0 → v = 0) ∧ (a = 1 → v ≤ 9) ∧ (a = 2 → v ≤ 99) ∧ v ≤ 999
theorem hvN_s {a v : Nat} (h : hvN a v) (ha : a < 3) {x : Int32} (hx : ¬ wi x 48 57 = 0) : ∃ b : Nat, 48 ≤ b ∧ b ≤ 57 ∧ x = nI b ∧ x.toNatClampNeg = b ∧ hvN (a + 1) (10 * v + (b - 48)) := by
  obtain ⟨b, b1, b2, b3⟩ := wi_nat (lo := 48) (hi := 57) (by decide) (by decide) hx
  obtain ⟨h1, h2, h3, h4⟩ := h
  refine ⟨b, b1, b2, b3, by rw [b3, nI_clamp (by omega)], ?_⟩
  unfold hvN
  rcases (show a = 0 ∨ a = 1 ∨ a = 2 by omega) with e | e | e
  · have := h1 e; omega
  · have := h2 e; omega
  · have := h3 e; omega
theorem rnN_b {t : Nat → Int32} {L : Nat} : ∀ d a v P, a + d = 3 → hvN a v → (rnN t L d v P).1 ≤ 999 ∧ P ≤ (rnN t L d v P).2 ∧ (rnN t L d v P).2 ≤ P + d
  | 0, a, v, P, h, hv => ⟨hv.2.2.2, Nat.le_refl P, Nat.le_refl P⟩
  | d + 1, a, v, P, h, hv => by
    rw [rnN_s]
    by_cases q : P < L ∧ ¬ wi (t P) 48 57 = 0
    · obtain ⟨b, b1, b2, b3, b4, b5⟩ := hvN_s hv (by omega) q.2
      rw [if_pos q, b4]
      have ih := rnN_b (t := t) (L := L) d (a + 1) (10 * v + (b - 48)) (P + 1) (by omega) b5
      exact ⟨ih.1, by omega, by omega⟩
    · rw [if_neg q]
      exact ⟨hv.2.2.2, Nat.le_refl P, by show P ≤ P + (d + 1); omega⟩
theorem hv0 : hvN 0 0 := ⟨fun _ => rfl, fun h => by omega, fun h => by omega, by omega⟩
def rdC3 (t : Nat → Int32) (L : Nat) (new : Nat → Int32) (w P : Nat) : Int32 × (Nat → Int32) × Nat := if (rnN t L 3 0 P).2 = P then (0, new, P) else if tbG w < nI (rnN t L 3 0 P).1 then (0, new, (rnN t L 3 0 P).2) else if (rnN t L 3 0 P).2 < L ∧ t (rnN t L 3 0 P).2 = 59 then (1, upd new w (nI (rnN t L 3 0 P).1), (rnN t L 3 0 P).2 + 1) else (0, new, (rnN t L 3 0 P).2)
def rdC2 (t : Nat → Int32) (L : Nat) (new : Nat → Int32) (W : Int32 × Nat) (P : Nat) : Int32 × (Nat → Int32) × Nat := if W.1 = -1 then (0, new, P + W.2) else if P + W.2 < L ∧ t (P + W.2) = 32 then rdC3 t L new W.1.toNatClampNeg (P + W.2 + 1) else (0, new, P + W.2)
def rdCl (t : Nat → Int32) (L : Nat) (new : Nat → Int32) (P : Nat) : Int32 × (Nat → Int32) × Nat := rdC2 t L new (rdW t L new P) P
def rdAll (t : Nat → Int32) (L : Nat) : Nat → (Nat → Int32) → Nat → Int32 × (Nat → Int32) × Nat
  | 0, new, P => (1, new, P)
  | d + 1, new, P => if L ≤ P then (1, new, P) else if (rdCl t L new P).1 = 0 then rdCl t L new P else rdAll t L d (rdCl t L new P).2.1 (rdCl t L new P).2.2
theorem rdAll_s (t : Nat → Int32) (L d : Nat) (new : Nat → Int32) (P : Nat) : rdAll t L (d + 1) new P = if L ≤ P then (1, new, P) else if (rdCl t L new P).1 = 0 then rdCl t L new P else rdAll t L d (rdCl t L new P).2.1 (rdCl t L new P).2.2 := rfl
def NV (new : Nat → Int32) : Prop := ∀ w, w < 5 → new w = -1 ∨ isN (if w = 1 then 52 else 100) (new w)
def cnN (new : Nat → Int32) : Nat := smN (fun w => if new w = -1 then 0 else 1) 5
theorem rdCl_ok {t : Nat → Int32} {L : Nat} {new : Nat → Int32} {P : Nat} (h : ¬ (rdCl t L new P).1 = 0) : ∃ w v, w < 5 ∧ new w = -1 ∧ v ≤ 999 ∧ isN (if w = 1 then 52 else 100) (nI v) ∧ (rdCl t L new P).2.1 = upd new w (nI v) ∧ (rdCl t L new P).2.2 ≤ L := by
  unfold rdCl rdC2 at h ⊢
  rcases rdW_or t L new P with q | ⟨w, w1, w2, w3⟩
  · rw [if_pos q] at h; exact absurd rfl h
  · rw [w2, if_neg (nI_ne_m1 (by omega))] at h ⊢
    by_cases q2 : P + (rdW t L new P).2 < L ∧ t (P + (rdW t L new P).2) = 32
    · rw [if_pos q2, nI_clamp (by omega)] at h ⊢
      have hb := rnN_b (t := t) (L := L) 3 0 0 (P + (rdW t L new P).2 + 1) rfl hv0
      unfold rdC3 at h ⊢
      by_cases q3 : (rnN t L 3 0 (P + (rdW t L new P).2 + 1)).2 = P + (rdW t L new P).2 + 1
      · rw [if_pos q3] at h; exact absurd rfl h
      · rw [if_neg q3] at h ⊢
        by_cases q4 : tbG w < nI (rnN t L 3 0 (P + (rdW t L new P).2 + 1)).1
        · rw [if_pos q4] at h; exact absurd rfl h
        · rw [if_neg q4] at h ⊢
          by_cases q5 : (rnN t L 3 0 (P + (rdW t L new P).2 + 1)).2 < L ∧ t (rnN t L 3 0 (P + (rdW t L new P).2 + 1)).2 = 59
          · rw [if_pos q5]
            refine ⟨w, (rnN t L 3 0 (P + (rdW t L new P).2 + 1)).1, w1, w3, hb.1, ⟨_, ?_, rfl⟩, rfl, q5.1⟩
            rw [tbG_e w w1] at q4
            by_cases e : w = 1
            · rw [if_pos e] at q4 ⊢
              exact Nat.not_lt.mp (fun u => q4 (nI_lt (a := 52) u (by omega)))
            · rw [if_neg e] at q4 ⊢
              exact Nat.not_lt.mp (fun u => q4 (nI_lt (a := 100) u (by omega)))
          · rw [if_neg q5] at h; exact absurd rfl h
    · rw [if_neg q2] at h; exact absurd rfl h
theorem rdCl_NV {t : Nat → Int32} {L : Nat} {new : Nat → Int32} {P : Nat} (h : ¬ (rdCl t L new P).1 = 0) (hN : NV new) : NV (rdCl t L new P).2.1 := by
  obtain ⟨w, v, w1, w2, w3, w4, w5, -⟩ := rdCl_ok h
  rw [w5]
  intro u hu
  by_cases e : u = w
  · rw [e, upd_s]; exact Or.inr w4
  · rw [upd_n e]; exact hN u hu
theorem rdCl_cn {t : Nat → Int32} {L : Nat} {new : Nat → Int32} {P : Nat} (h : ¬ (rdCl t L new P).1 = 0) : cnN (rdCl t L new P).2.1 = cnN new + 1 := by
  obtain ⟨w, v, w1, w2, w3, w4, w5, -⟩ := rdCl_ok h
  rw [w5]
  have hv : ¬ nI v = -1 := nI_ne_m1 (by omega)
  unfold cnN smN smN smN smN smN smN
  rcases (show w = 0 ∨ w = 1 ∨ w = 2 ∨ w = 3 ∨ w = 4 by omega) with e | e | e | e | e
  all_goals
    subst e
    simp only [upd, if_true, w2, hv, if_false, Nat.reduceEqDiff]
    try omega
theorem rdCl_no {t : Nat → Int32} {L : Nat} {new : Nat → Int32} {P : Nat} (h : (rdCl t L new P).1 = 0) : (rdCl t L new P).2.1 = new := by
  unfold rdCl rdC2 at h ⊢
  by_cases q : (rdW t L new P).1 = -1
  · rw [if_pos q]
  · rw [if_neg q] at h ⊢
    by_cases q2 : P + (rdW t L new P).2 < L ∧ t (P + (rdW t L new P).2) = 32
    · rw [if_pos q2] at h ⊢
      unfold rdC3 at h ⊢
      split
      · rfl
      · split
        · rfl
        · split
          · exfalso
            rename_i c1 c2 c3
            rw [if_neg c1, if_neg c2, if_pos c3] at h
            exact one_ne0 h
          · rfl
    · rw [if_neg q2]
theorem rdAll_NV {t : Nat → Int32} {L : Nat} : ∀ d new P, NV new → NV (rdAll t L d new P).2.1
  | 0, new, P, h => h
  | d + 1, new, P, h => by
    rw [rdAll_s]
    by_cases q : L ≤ P
    · rw [if_pos q]; exact h
    · rw [if_neg q]
      by_cases q2 : (rdCl t L new P).1 = 0
      · rw [if_pos q2, rdCl_no q2]; exact h
      · rw [if_neg q2]; exact rdAll_NV d _ _ (rdCl_NV q2 h)
/-! the class -/
def Cst (M : Mem) (new : Nat → Int32) (P : Nat) : Mem := (fun k => if k = 31 then new else if k = 5 then upd (M.1 5) 4 (nI P) else M.1 k, M.2)
theorem Cst_31 (M : Mem) (new : Nat → Int32) (P : Nat) : (Cst M new P).1 31 = new := rfl
theorem Cst_54 (M : Mem) (new : Nat → Int32) (P : Nat) : (Cst M new P).1 5 4 = nI P := rfl
theorem Cst_53 (M : Mem) (new : Nat → Int32) (P : Nat) : (Cst M new P).1 5 3 = M.1 5 3 := rfl
theorem Cst_ne {M : Mem} {new : Nat → Int32} {P q : Nat} (h1 : q ≠ 31) (h2 : q ≠ 5) : (Cst M new P).1 q = M.1 q := by
  show (if q = 31 then new else if q = 5 then upd (M.1 5) 4 (nI P) else M.1 q) = M.1 q
  rw [if_neg h1, if_neg h2]
theorem Cst_p (M : Mem) (new : Nat → Int32) (P Q : Nat) : up2 (Cst M new P) 5 4 (nI Q) = Cst M new Q := by
  refine Prod.ext ?_ rfl
  funext k
  show (if k = 5 then upd (upd (M.1 5) 4 (nI P)) 4 (nI Q) else (if k = 31 then new else if k = 5 then upd (M.1 5) 4 (nI P) else M.1 k)) = (if k = 31 then new else if k = 5 then upd (M.1 5) 4 (nI Q) else M.1 k)
  by_cases e : k = 5
  · rw [if_pos e, if_neg (show ¬ k = 31 by omega), if_pos e]
    funext s
    by_cases c : s = 4
    · rw [c, upd_s, upd_s]
    · rw [upd_n c, upd_n c, upd_n c]
  · rw [if_neg e, if_neg e, if_neg e]
theorem Cst_n (M : Mem) (new : Nat → Int32) (P w : Nat) (v : Int32) : up2 (Cst M new P) 31 w v = Cst M (upd new w v) P := by
  refine Prod.ext ?_ rfl
  funext k
  show (if k = 31 then upd new w v else (if k = 31 then new else if k = 5 then upd (M.1 5) 4 (nI P) else M.1 k)) = (if k = 31 then upd new w v else if k = 5 then upd (M.1 5) 4 (nI P) else M.1 k)
  by_cases e : k = 31
  · rw [if_pos e, if_pos e]
  · rw [if_neg e, if_neg e, if_neg e]
theorem l_alike {M : Mem} {L P : Nat} (eL : M.1 5 3 = nI L) (hL : L ≤ 60) (eP : M.1 5 4 = nI P) (hP : P ≤ 60) {w : Nat} (hw : w < 5) (K : Int32 → Mem → Option Ret) : ∀ (d a k : Nat), a + d = wlen w → f_X5_alikeWith_L2 w (k + (d + 1)) (nI a) M K = K (nI (lead (chf (M.1 32) L P) w d a)) M
  | 0, a, k, hh => by
    have := wl_4 w hw
    rw [show k + (0 + 1) = k + 1 from rfl, f_X5_alikeWith_L2, show f_J0_length_8abf5 w M = some (sL w, M) from rfl, bE_s, sL_wl w hw, if_pos (nI_le (by omega) (by omega))]
    rfl
  | d + 1, a, k, hh => by
    have := wl_4 w hw
    rw [show k + (d + 1 + 1) = (k + (d + 1)) + 1 from rfl, f_X5_alikeWith_L2, show f_J0_length_8abf5 w M = some (sL w, M) from rfl, bE_s, sL_wl w hw, if_neg (nI_ge (show a < wlen w by omega) (by omega)), eL, eP, nI_add, lead_s]
    by_cases q : P + a < L
    · rw [if_neg (nI_ge q (by omega)), gV_nI (show P + a < 60 by omega) (by decide), show f_J0_charAt_5068e w (nI a) M = gV (nI a) (wlen w) (some (chr w (nI a), M)) from rfl, gV_nI (show a < wlen w by omega) (by omega), bE_s, nI_clamp (show P + a < 2 ^ 31 by omega), wc_chr w hw a (by omega) (by omega), nI_1, show chf (M.1 32) L P a = M.1 32 (P + a) from if_pos q]
      by_cases q2 : M.1 32 (P + a) = wcw w a
      · rw [if_pos q2, if_pos q2]
        exact l_alike eL hL eP hP hw K d (a + 1) k (by omega)
      · rw [if_neg q2, if_neg q2]
    · rw [if_pos (nI_le (by omega) (by omega)), show chf (M.1 32) L P a = -1 from if_neg q, if_neg (wc_m1 w hw a (by omega))]
theorem e_alike {M : Mem} {L P : Nat} (eL : M.1 5 3 = nI L) (hL : L ≤ 60) (eP : M.1 5 4 = nI P) (hP : P ≤ 60) {w : Nat} (hw : w < 5) : f_X5_alikeWith w M = some (nI (al (chf (M.1 32) L P) w), M) := by
  have := wl_4 w hw
  obtain ⟨k, hk⟩ := FU_pos (d := wlen w) (by omega)
  have l := fun K => l_alike eL hL eP hP hw K (wlen w) 0 k (by omega)
  rw [← hk, show nI 0 = 0 from rfl] at l
  unfold f_X5_alikeWith
  rw [l]
  rfl
theorem e_wordOf {b : Nat} (hb : b < 5) (M : Mem) : f_X5_wordOf (nI b) M = some (nI b, M) := by
  unfold f_X5_wordOf
  rcases (show b = 0 ∨ b = 1 ∨ b = 2 ∨ b = 3 ∨ b = 4 by omega) with e | e | e | e | e
  · rw [e, if_pos (show nI 0 = 0 from rfl)]; rfl
  · rw [e, if_neg (show ¬ nI 1 = 0 by decide), if_pos (show nI 1 = 1 from rfl)]; rfl
  · rw [e, if_neg (show ¬ nI 2 = 0 by decide), if_neg (show ¬ nI 2 = 1 by decide), if_pos (show nI 2 = 2 from rfl)]; rfl
  · rw [e, if_neg (show ¬ nI 3 = 0 by decide), if_neg (show ¬ nI 3 = 1 by decide), if_neg (show ¬ nI 3 = 2 by decide), if_pos (show nI 3 = 3 from rfl)]; rfl
  · rw [e, if_neg (show ¬ nI 4 = 0 by decide), if_neg (show ¬ nI 4 = 1 by decide), if_neg (show ¬ nI 4 = 2 by decide), if_neg (show ¬ nI 4 = 3 by decide)]; rfl
theorem l_rw {M : Mem} {L P : Nat} (eL : M.1 5 3 = nI L) (hL : L ≤ 60) (eP : M.1 5 4 = nI P) (hP : P ≤ 60) : ∀ (d b k m : Nat), b + d = 5 → m ≤ 5 → f_X5_readWord_L4 (k + (d + 1)) (nI m) (nI b) M (fun w9 w10 M11 => bM (up2 M11 5 4 ((M11.1 5 4) + w9)) (fun M12 => some ((-1 : Int32), M12))) = some ((rwL (M.1 31) (chf (M.1 32) L P) d b m).1, up2 M 5 4 (nI (P + (rwL (M.1 31) (chf (M.1 32) L P) d b m).2)))
  | 0, b, k, m, hh, hm => by
    have : b = 5 := by omega
    subst this
    rw [show k + (0 + 1) = k + 1 from rfl, f_X5_readWord_L4, if_pos (show (5 : Int32) ≤ nI 5 by decide), bM_e, eP, nI_add]
    rfl
  | d + 1, b, k, m, hh, hm => by
    have hw := wl_4 b (by omega)
    have hal := al_le (chf (M.1 32) L P) b
    have hb5 : ∀ z : Option Ret, gV (nI b) 5 z = z := fun z => gV_nI (by omega) (by decide)
    rw [show k + (d + 1 + 1) = (k + (d + 1)) + 1 from rfl, f_X5_readWord_L4, if_neg (show ¬ (5 : Int32) ≤ nI b from nI_ge (b := 5) (by omega) (by decide)), hb5, nI_clamp (show b < 2 ^ 31 by omega), rwL_s]
    by_cases q : M.1 31 b = -1
    · rw [if_pos q, if_pos q, e_wordOf (by omega), bE_s, hb5, nI_clamp (show b < 2 ^ 31 by omega), e_alike eL hL eP hP (show b < 5 by omega), bE_s, show f_J0_length_8abf5 b M = some (sL b, M) from rfl, bE_s, sL_wl b (by omega)]
      by_cases q2 : al (chf (M.1 32) L P) b = wlen b
      · rw [if_pos (show nI (al (chf (M.1 32) L P) b) = nI (wlen b) by rw [q2]), if_pos q2, bM_e, eP, nI_add, q2]
      · have e1 : (if nI m < nI (al (chf (M.1 32) L P) b) then nI (al (chf (M.1 32) L P) b) else nI m) = nI (if m < al (chf (M.1 32) L P) b then al (chf (M.1 32) L P) b else m) := by
          by_cases c : m < al (chf (M.1 32) L P) b
          · rw [if_pos c, if_pos (nI_lt c (by omega))]
          · rw [if_neg c, if_neg (nI_nlt (by omega) (by omega))]
        rw [if_neg (fun e => q2 ((nI_eq (by omega) (by omega)).mp e)), if_neg q2, bI_e, e1, nI_1]
        exact l_rw eL hL eP hP d (b + 1) k _ (by omega) (by split <;> omega)
    · rw [if_neg q, if_neg q, nI_1]
      exact l_rw eL hL eP hP d (b + 1) k m (by omega) hm
theorem e_readWord {M : Mem} {L P : Nat} {new : Nat → Int32} (eL : M.1 5 3 = nI L) (hL : L ≤ 60) (hP : P ≤ 60) : f_X5_readWord (Cst M new P) = some ((rdW (M.1 32) L new P).1, Cst M new (P + (rdW (M.1 32) L new P).2)) := by
  obtain ⟨k, hk⟩ := FU_pos (d := 5) (by omega)
  have l := l_rw (M := Cst M new P) (L := L) (P := P) eL hL rfl hP 5 0 k 0 rfl (by omega)
  rw [← hk, show nI 0 = 0 from rfl, Cst_p, Cst_31, Cst_ne (show (32 : Nat) ≠ 31 by decide) (by decide)] at l
  unfold f_X5_readWord
  rw [l]
  rfl
theorem e_sign {M : Mem} {L P : Nat} {new : Nat → Int32} (eL : M.1 5 3 = nI L) (hL : L ≤ 60) (hP : P ≤ 100) (c : Int32) : f_X5_readSign c (Cst M new P) = if P < L ∧ M.1 32 P = c then some (1, Cst M new (P + 1)) else some (0, Cst M new P) := by
  unfold f_X5_readSign
  rw [Cst_53, Cst_54, eL, Cst_ne (show (32 : Nat) ≠ 31 by decide) (by decide)]
  by_cases q : P < L
  · rw [if_neg (nI_ge q (by omega)), gV_nI (show P < 60 by omega) (by decide), nI_clamp (by omega), bM_e, nI_1, Cst_p]
    by_cases q2 : M.1 32 P = c
    · rw [if_pos q2, if_pos ⟨q, q2⟩]
    · rw [if_neg q2, if_neg (fun w => q2 w.2)]
  · rw [if_pos (nI_le (by omega) (by omega)), if_neg (fun w => q w.1)]
theorem l_num {M : Mem} {L : Nat} {new : Nat → Int32} (eL : M.1 5 3 = nI L) (hL : L ≤ 60) {P0 : Nat} (hP : P0 ≤ 100) : ∀ (d a k v : Nat), a + d = 3 → hvN a v → f_X5_readNumber_L4 (k + (d + 1)) (if a = 0 then -1 else nI v) (nI a) (Cst M new (P0 + a)) (fun w5 w6 M7 => some (w5, M7)) = some (if (rnN (M.1 32) L d v (P0 + a)).2 = P0 then -1 else nI (rnN (M.1 32) L d v (P0 + a)).1, Cst M new (rnN (M.1 32) L d v (P0 + a)).2)
  | 0, a, k, v, hh, hv => by
    have : a = 3 := by omega
    subst this
    rw [show k + (0 + 1) = k + 1 from rfl, f_X5_readNumber_L4, if_pos (show (3 : Int32) ≤ nI 3 by decide), if_neg (show ¬ 3 = 0 by decide), if_neg (show ¬ (rnN (M.1 32) L 0 v (P0 + 3)).2 = P0 from (by show ¬ P0 + 3 = P0; omega))]
    rfl
  | d + 1, a, k, v, hh, hv => by
    have hstop : (if a = 0 then (-1 : Int32) else nI v) = if P0 + a = P0 then -1 else nI v := by
      by_cases e : a = 0
      · rw [if_pos e, if_pos (by omega)]
      · rw [if_neg e, if_neg (by omega)]
    rw [show k + (d + 1 + 1) = (k + (d + 1)) + 1 from rfl, f_X5_readNumber_L4, if_neg (show ¬ (3 : Int32) ≤ nI a from nI_ge (b := 3) (by omega) (by decide)), Cst_53, Cst_54, eL, Cst_ne (show (32 : Nat) ≠ 31 by decide) (by decide), rnN_s]
    by_cases q : P0 + a < L
    · rw [if_neg (nI_ge q (by omega)), gV_nI (show P0 + a < 60 by omega) (by decide), nI_clamp (show P0 + a < 2 ^ 31 by omega), e_X10_isWithin, bE_s, Cst_54, Cst_ne (show (32 : Nat) ≠ 31 by decide) (by decide), gV_nI (show P0 + a < 60 by omega) (by decide), nI_clamp (show P0 + a < 2 ^ 31 by omega)]
      by_cases q2 : wi (M.1 32 (P0 + a)) 48 57 = 0
      · rw [if_pos q2, if_neg (show ¬ (P0 + a < L ∧ ¬ wi (M.1 32 (P0 + a)) 48 57 = 0) from fun w => w.2 q2), hstop]
      · obtain ⟨b, b1, b2, b3, b4, b5⟩ := hvN_s hv (by omega) q2
        have hmax : (if (if a = 0 then (-1 : Int32) else nI v) < 0 then 0 else (if a = 0 then (-1 : Int32) else nI v)) = nI v := by
          by_cases e : a = 0
          · rw [if_pos e, if_pos m1_neg, hv.1 e]; rfl
          · have := hv.2.2.2
            rw [if_neg e, if_neg (nI_pos (by omega))]
        have hval : nI v * 10 + M.1 32 (P0 + a) - 48 = nI (10 * v + (b - 48)) := by
          rw [b3, show (10 : Int32) = nI 10 from rfl, pk_mul, nI_add, show (48 : Int32) = nI 48 from rfl, pk_sub (by omega)]
          congr 1
          omega
        rw [if_neg q2, if_pos (show P0 + a < L ∧ ¬ wi (M.1 32 (P0 + a)) 48 57 = 0 from ⟨q, q2⟩), b4, bI_e, hmax, hval, bM_e, nI_1, nI_1, Cst_p]
        have ih := l_num eL hL hP d (a + 1) k (10 * v + (b - 48)) (by omega) b5 (new := new)
        rw [if_neg (show ¬ a + 1 = 0 by omega)] at ih
        exact ih
    · rw [if_pos (show nI L ≤ nI (P0 + a) from nI_le (by omega) (by omega)), if_neg (show ¬ (P0 + a < L ∧ ¬ wi (M.1 32 (P0 + a)) 48 57 = 0) from fun w => q w.1), hstop]
theorem e_num {M : Mem} {L P : Nat} {new : Nat → Int32} (eL : M.1 5 3 = nI L) (hL : L ≤ 60) (hP : P ≤ 100) : f_X5_readNumber (Cst M new P) = some (if (rnN (M.1 32) L 3 0 P).2 = P then -1 else nI (rnN (M.1 32) L 3 0 P).1, Cst M new (rnN (M.1 32) L 3 0 P).2) := by
  obtain ⟨k, hk⟩ := FU_pos (d := 3) (by omega)
  have l := l_num eL hL hP 3 0 k 0 rfl hv0 (new := new)
  rw [← hk, show nI 0 = 0 from rfl, if_pos rfl, Nat.add_zero] at l
  unfold f_X5_readNumber
  rw [l]
theorem e_clause {M : Mem} {L P : Nat} {new : Nat → Int32} (eL : M.1 5 3 = nI L) (hL : L ≤ 60) (hP : P ≤ 60) : f_X5_readClause (Cst M new P) = some ((rdCl (M.1 32) L new P).1, Cst M (rdCl (M.1 32) L new P).2.1 (rdCl (M.1 32) L new P).2.2) := by
  have hn := WR_5 (rdW_WR (M.1 32) L new P)
  unfold f_X5_readClause rdCl rdC2
  rw [e_readWord eL hL hP, bE_s]
  rcases rdW_or (M.1 32) L new P with q | ⟨w, w1, w2, w3⟩
  · rw [if_pos q, if_pos q]
  · have hw5 : ∀ z : Option Ret, gV (nI w) 5 z = z := fun z => gV_nI w1 (by decide)
    rw [w2, if_neg (nI_ne_m1 (by omega)), if_neg (nI_ne_m1 (by omega)), e_sign eL hL (show P + (rdW (M.1 32) L new P).2 ≤ 100 by omega)]
    by_cases q2 : P + (rdW (M.1 32) L new P).2 < L ∧ M.1 32 (P + (rdW (M.1 32) L new P).2) = 32
    · have hb := rnN_b (t := M.1 32) (L := L) 3 0 0 (P + (rdW (M.1 32) L new P).2 + 1) rfl hv0
      rw [if_pos q2, if_pos q2, bE_s, if_neg one_ne0, e_num eL hL (show P + (rdW (M.1 32) L new P).2 + 1 ≤ 100 by omega), bE_s, nI_clamp (show w < 2 ^ 31 by omega), hw5]
      unfold rdC3
      by_cases q3 : (rnN (M.1 32) L 3 0 (P + (rdW (M.1 32) L new P).2 + 1)).2 = P + (rdW (M.1 32) L new P).2 + 1
      · rw [if_pos q3, if_pos q3, if_pos rfl, q3]
      · rw [if_neg q3, if_neg q3, if_neg (nI_ne_m1 (by omega)), e_sign eL hL (show (rnN (M.1 32) L 3 0 (P + (rdW (M.1 32) L new P).2 + 1)).2 ≤ 100 by omega)]
        by_cases q4 : tbG w < nI (rnN (M.1 32) L 3 0 (P + (rdW (M.1 32) L new P).2 + 1)).1
        · rw [if_pos q4, if_pos q4]
        · rw [if_neg q4, if_neg q4]
          by_cases q5 : (rnN (M.1 32) L 3 0 (P + (rdW (M.1 32) L new P).2 + 1)).2 < L ∧ M.1 32 (rnN (M.1 32) L 3 0 (P + (rdW (M.1 32) L new P).2 + 1)).2 = 59
          · rw [if_pos q5, if_pos q5, bE_s, if_neg one_ne0, hw5, bM_e, Cst_n]
          · rw [if_neg q5, if_neg q5, bE_s, if_pos rfl]
    · rw [if_neg q2, if_neg q2, bE_s, if_pos rfl]
theorem l_clauses {M : Mem} {L : Nat} (eL : M.1 5 3 = nI L) (hL : L ≤ 60) : ∀ (d c k : Nat) (new : Nat → Int32) (P : Nat), c + d = 6 → P ≤ 60 → f_X5_readClauses_L15 (k + (d + 1)) (nI c) (Cst M new P) (fun w6 M7 => some ((1 : Int32), M7)) = some ((rdAll (M.1 32) L d new P).1, Cst M (rdAll (M.1 32) L d new P).2.1 (rdAll (M.1 32) L d new P).2.2)
  | 0, c, k, new, P, hh, hP => by
    have : c = 6 := by omega
    subst this
    rw [show k + (0 + 1) = k + 1 from rfl, f_X5_readClauses_L15, if_pos (show (5 : Int32) < nI 6 by decide)]
    rfl
  | d + 1, c, k, new, P, hh, hP => by
    rw [show k + (d + 1 + 1) = (k + (d + 1)) + 1 from rfl, f_X5_readClauses_L15, if_neg (show ¬ (5 : Int32) < nI c from nI_nlt (a := 5) (by omega) (by decide)), Cst_53, Cst_54, eL, rdAll_s]
    by_cases q : L ≤ P
    · rw [if_pos (nI_le q (by omega)), if_pos q]
    · rw [if_neg (nI_ge (by omega) (by omega)), if_neg q, e_clause eL hL hP, bE_s, nI_1]
      by_cases q2 : (rdCl (M.1 32) L new P).1 = 0
      · rw [if_pos q2, if_pos q2, q2]
      · obtain ⟨-, -, -, -, -, -, -, h6⟩ := rdCl_ok q2
        rw [if_neg q2, if_neg q2]
        exact l_clauses eL hL d (c + 1) k _ _ (by omega) (by omega)
