/-! SLOW: the class -/
def slq (q : Nat) : Prop := q < 10 ∨ (10 < q ∧ q < 48) ∨ (65 < q ∧ q < 100)
def Sl (M N : Mem) : Prop := ∀ q : Nat, slq q → N.1 q = M.1 q
theorem Sl.eqv {M N : Mem} (h : Sl M N) : Eqv M N := ⟨h 12 (Or.inr (Or.inl ⟨by decide, by decide⟩)), h 13 (Or.inr (Or.inl ⟨by decide, by decide⟩)), h 14 (Or.inr (Or.inl ⟨by decide, by decide⟩)), h 15 (Or.inr (Or.inl ⟨by decide, by decide⟩)), h 16 (Or.inr (Or.inl ⟨by decide, by decide⟩)), h 17 (Or.inr (Or.inl ⟨by decide, by decide⟩)), h 18 (Or.inr (Or.inl ⟨by decide, by decide⟩)), h 19 (Or.inr (Or.inl ⟨by decide, by decide⟩)), h 20 (Or.inr (Or.inl ⟨by decide, by decide⟩)), h 22 (Or.inr (Or.inl ⟨by decide, by decide⟩)), h 23 (Or.inr (Or.inl ⟨by decide, by decide⟩)), h 24 (Or.inr (Or.inl ⟨by decide, by decide⟩)), h 25 (Or.inr (Or.inl ⟨by decide, by decide⟩)), h 26 (Or.inr (Or.inl ⟨by decide, by decide⟩)), h 27 (Or.inr (Or.inl ⟨by decide, by decide⟩)), h 28 (Or.inr (Or.inl ⟨by decide, by decide⟩)), h 29 (Or.inr (Or.inl ⟨by decide, by decide⟩)), h 30 (Or.inr (Or.inl ⟨by decide, by decide⟩)), h 32 (Or.inr (Or.inl ⟨by decide, by decide⟩)), h 33 (Or.inr (Or.inl ⟨by decide, by decide⟩)), h 34 (Or.inr (Or.inl ⟨by decide, by decide⟩)), h 35 (Or.inr (Or.inl ⟨by decide, by decide⟩)), h 36 (Or.inr (Or.inl ⟨by decide, by decide⟩)), h 37 (Or.inr (Or.inl ⟨by decide, by decide⟩)), h 38 (Or.inr (Or.inl ⟨by decide, by decide⟩)), h 39 (Or.inr (Or.inl ⟨by decide, by decide⟩)), h 40 (Or.inr (Or.inl ⟨by decide, by decide⟩)), h 41 (Or.inr (Or.inl ⟨by decide, by decide⟩)), h 42 (Or.inr (Or.inl ⟨by decide, by decide⟩)), h 43 (Or.inr (Or.inl ⟨by decide, by decide⟩)), h 44 (Or.inr (Or.inl ⟨by decide, by decide⟩)), h 66 (Or.inr (Or.inr ⟨by decide, by decide⟩)), h 67 (Or.inr (Or.inr ⟨by decide, by decide⟩)), h 68 (Or.inr (Or.inr ⟨by decide, by decide⟩)), h 69 (Or.inr (Or.inr ⟨by decide, by decide⟩)), h 70 (Or.inr (Or.inr ⟨by decide, by decide⟩)), h 71 (Or.inr (Or.inr ⟨by decide, by decide⟩)), h 72 (Or.inr (Or.inr ⟨by decide, by decide⟩)), h 73 (Or.inr (Or.inr ⟨by decide, by decide⟩)), h 74 (Or.inr (Or.inr ⟨by decide, by decide⟩)), h 75 (Or.inr (Or.inr ⟨by decide, by decide⟩)), h 76 (Or.inr (Or.inr ⟨by decide, by decide⟩)), h 77 (Or.inr (Or.inr ⟨by decide, by decide⟩)), h 78 (Or.inr (Or.inr ⟨by decide, by decide⟩)), h 79 (Or.inr (Or.inr ⟨by decide, by decide⟩)), h 80 (Or.inr (Or.inr ⟨by decide, by decide⟩)), h 81 (Or.inr (Or.inr ⟨by decide, by decide⟩)), h 82 (Or.inr (Or.inr ⟨by decide, by decide⟩)), h 83 (Or.inr (Or.inr ⟨by decide, by decide⟩)), h 84 (Or.inr (Or.inr ⟨by decide, by decide⟩)), h 85 (Or.inr (Or.inr ⟨by decide, by decide⟩)), h 86 (Or.inr (Or.inr ⟨by decide, by decide⟩)), h 87 (Or.inr (Or.inr ⟨by decide, by decide⟩)), h 88 (Or.inr (Or.inr ⟨by decide, by decide⟩)), h 89 (Or.inr (Or.inr ⟨by decide, by decide⟩)), h 90 (Or.inr (Or.inr ⟨by decide, by decide⟩)), h 91 (Or.inr (Or.inr ⟨by decide, by decide⟩)), h 92 (Or.inr (Or.inr ⟨by decide, by decide⟩)), h 93 (Or.inr (Or.inr ⟨by decide, by decide⟩)), h 94 (Or.inr (Or.inr ⟨by decide, by decide⟩)), h 95 (Or.inr (Or.inr ⟨by decide, by decide⟩)), congrFun (h 0 (Or.inl (by decide))) 12, congrFun (h 0 (Or.inl (by decide))) 13, congrFun (h 1 (Or.inl (by decide))) 1, congrFun (h 1 (Or.inl (by decide))) 2, congrFun (h 1 (Or.inl (by decide))) 3, congrFun (h 2 (Or.inl (by decide))) 3, congrFun (h 2 (Or.inl (by decide))) 8, congrFun (h 3 (Or.inl (by decide))) 4, congrFun (h 4 (Or.inl (by decide))) 6, congrFun (h 5 (Or.inl (by decide))) 3, congrFun (h 6 (Or.inl (by decide))) 10, congrFun (h 7 (Or.inl (by decide))) 4, congrFun (h 11 (Or.inr (Or.inl ⟨by decide, by decide⟩))) 0, congrFun (h 11 (Or.inr (Or.inl ⟨by decide, by decide⟩))) 2, congrFun (h 11 (Or.inr (Or.inl ⟨by decide, by decide⟩))) 3, congrFun (h 11 (Or.inr (Or.inl ⟨by decide, by decide⟩))) 4, congrFun (h 11 (Or.inr (Or.inl ⟨by decide, by decide⟩))) 7, congrFun (h 11 (Or.inr (Or.inl ⟨by decide, by decide⟩))) 12, congrFun (h 11 (Or.inr (Or.inl ⟨by decide, by decide⟩))) 17, congrFun (h 11 (Or.inr (Or.inl ⟨by decide, by decide⟩))) 21, congrFun (h 11 (Or.inr (Or.inl ⟨by decide, by decide⟩))) 24, congrFun (h 11 (Or.inr (Or.inl ⟨by decide, by decide⟩))) 25, congrFun (h 11 (Or.inr (Or.inl ⟨by decide, by decide⟩))) 33, congrFun (h 11 (Or.inr (Or.inl ⟨by decide, by decide⟩))) 39⟩
theorem Sl.inv {M N : Mem} (h : Sl M N) (hI : Inv M) : Inv N := Inv.go h.eqv hI
theorem Sl.rf (M : Mem) : Sl M M := fun _ _ => rfl
theorem Sl.tr {M N O : Mem} (h : Sl M N) (k : Sl N O) : Sl M O := fun q hq => (k q hq).trans (h q hq)
theorem Sl.up {M N : Mem} {q j : Nat} {x : Int32} (h : Sl M N) (hq : ¬ slq q) : Sl M (up2 N q j x) := fun k hk => (up2_ne (fun e => hq (by rw [← e]; exact hk))).trans (h k hk)
theorem slq_n {q : Nat} (h : q = 10 ∨ (48 ≤ q ∧ q ≤ 65) ∨ 100 ≤ q) : ¬ slq q := by unfold slq; omega
theorem sl11 : slq 11 := Or.inr (Or.inl ⟨by decide, by decide⟩)
theorem sl34 : slq 34 := Or.inr (Or.inl ⟨by decide, by decide⟩)
theorem sl35 : slq 35 := Or.inr (Or.inl ⟨by decide, by decide⟩)
theorem sl36 : slq 36 := Or.inr (Or.inl ⟨by decide, by decide⟩)
theorem sl38 : slq 38 := Or.inr (Or.inl ⟨by decide, by decide⟩)
theorem sl39 : slq 39 := Or.inr (Or.inl ⟨by decide, by decide⟩)
theorem sl83 : slq 83 := Or.inr (Or.inr ⟨by decide, by decide⟩)
theorem sl84 : slq 84 := Or.inr (Or.inr ⟨by decide, by decide⟩)
theorem sl85 : slq 85 := Or.inr (Or.inr ⟨by decide, by decide⟩)
theorem sl87 : slq 87 := Or.inr (Or.inr ⟨by decide, by decide⟩)
theorem sl88 : slq 88 := Or.inr (Or.inr ⟨by decide, by decide⟩)
theorem sl6 : slq 6 := Or.inl (by decide)
def gat (M : Mem) (who job : Int32) : Nat → Nat × (Nat → Int32) × (Nat → Int32)
  | 0 => (0, fun _ => 0, fun _ => 0)
  | m + 1 => if (M.1 83 m = who ∧ M.1 84 m = job ∧ ¬ M.1 85 m ≤ 0) ∧ (gat M who job m).1 < 14 then ((gat M who job m).1 + 1, upd (gat M who job m).2.1 (gat M who job m).1 ((M.1 87 m * 100) / M.1 85 m), upd (gat M who job m).2.2 (gat M who job m).1 (M.1 88 m)) else gat M who job m
theorem gat_s (M : Mem) (who job : Int32) (m : Nat) : gat M who job (m + 1) = if (M.1 83 m = who ∧ M.1 84 m = job ∧ ¬ M.1 85 m ≤ 0) ∧ (gat M who job m).1 < 14 then ((gat M who job m).1 + 1, upd (gat M who job m).2.1 (gat M who job m).1 ((M.1 87 m * 100) / M.1 85 m), upd (gat M who job m).2.2 (gat M who job m).1 (M.1 88 m)) else gat M who job m := rfl
theorem gat_le (M : Mem) (who job : Int32) : ∀ m, (gat M who job m).1 ≤ 14
  | 0 => Nat.zero_le 14
  | m + 1 => by
    have := gat_le M who job m
    rw [gat_s]
    by_cases q : (M.1 83 m = who ∧ M.1 84 m = job ∧ ¬ M.1 85 m ≤ 0) ∧ (gat M who job m).1 < 14
    · rw [if_pos q]; have := q.2; show _ + 1 ≤ 14; omega
    · rw [if_neg q]; exact this
theorem gat_full (M : Mem) (who job : Int32) {m : Nat} (h : (gat M who job m).1 = 14) : ∀ d, gat M who job (m + d) = gat M who job m
  | 0 => rfl
  | d + 1 => by
    rw [show m + (d + 1) = (m + d) + 1 from rfl, gat_s, gat_full M who job h d, if_neg (fun w => by have := w.2; omega)]
def GS (N : Mem) (g : Nat × (Nat → Int32) × (Nat → Int32)) : Prop := N.1 10 4 = nI g.1 ∧ N.1 10 5 = nI (wcN g.2.2 g.1) ∧ ∀ k, k < g.1 → N.1 48 k = g.2.1 k ∧ N.1 49 k = g.2.2 k
theorem wcN_congr {W V : Nat → Int32} {c : Nat} (h : ∀ k, k < c → W k = V k) : wcN W c = wcN V c := smN_congr (fun k hk => by rw [h k hk])
theorem row_w {M : Mem} (h : Rr M) {n i : Nat} (en : M.1 11 25 = nI n) (hn : n ≤ 100) (hi : i < n) : M.1 88 i = 0 ∨ M.1 88 i = 1 := by
  obtain ⟨kk, k1, k2, k3⟩ := h.w
  have : kk = n := (nI_eq (by omega) (by omega)).mp (k2.symm.trans en)
  subst this
  exact (k3 i hi).2.2.2.2.2.2.1
theorem gat_W {M : Mem} (h : Rr M) {n : Nat} (en : M.1 11 25 = nI n) (hn : n ≤ 100) (who job : Int32) : ∀ m, m ≤ n → ∀ k, (gat M who job m).2.2 k = 0 ∨ (gat M who job m).2.2 k = 1
  | 0, _, k => Or.inl rfl
  | m + 1, hm, k => by
    have ih := gat_W h en hn who job m (by omega) k
    rw [gat_s]
    by_cases q : (M.1 83 m = who ∧ M.1 84 m = job ∧ ¬ M.1 85 m ≤ 0) ∧ (gat M who job m).1 < 14
    · rw [if_pos q]
      show upd _ _ _ k = 0 ∨ upd _ _ _ k = 1
      by_cases c : k = (gat M who job m).1
      · rw [c, upd_s]; exact row_w h en hn (by omega)
      · rw [upd_n c]; exact ih
    · rw [if_neg q]; exact ih
theorem and_01 {x : Int32} (h : x = 0 ∨ x = 1) : x &&& 1 = x := by rcases h with rfl | rfl <;> decide
theorem gZ_01 {x : Int32} {k : Option Ret} (h : x = 0 ∨ x = 1) : gZ x k = k := by
  rcases h with rfl | rfl
  · exact gZ_0
  · exact gZ_1
def gstep (N : Mem) (c : Nat) (p w : Int32) : Mem := up2 (up2 (up2 (up2 N 48 c p) 49 c w) 10 5 (N.1 10 5 + if w = 0 then 0 else 1)) 10 4 (nI c + 1)
theorem gather_un {M N : Mem} (hI : Inv M) {n : Nat} (en : M.1 11 25 = nI n) (hn : n ≤ 100) (who job : Int32) {a c : Nat} (ha : a < n) (hc : c < 14) (hs : Sl M N) (e4 : N.1 10 4 = nI c) (z : Nat) (K : Int32 → Mem → Option Ret) : f_X6_gather_L12 who job (z + 1) (nI a) N K = f_X6_gather_L12 who job z (nI (a + 1)) (if M.1 83 a = who ∧ M.1 84 a = job ∧ ¬ M.1 85 a ≤ 0 then gstep N c ((M.1 87 a * 100) / M.1 85 a) (M.1 88 a) else N) K := by
  have hIN := hs.inv hI
  have e1 : N.1 6 10 = nI n := by rw [hIN.rel.rows, hs 11 sl11, en]
  have g1 : N.1 34 = M.1 83 := by rw [hIN.rel.wWorker, hs 83 sl83]
  have g2 : N.1 35 = M.1 84 := by rw [hIN.rel.wJob, hs 84 sl84]
  have g3 : N.1 36 = M.1 85 := by rw [hIN.rel.wGood, hs 85 sl85]
  have g4 : N.1 38 = M.1 87 := by rw [hIN.rel.wMin, hs 87 sl87]
  have g5 : N.1 39 = M.1 88 := by rw [hIN.rel.wWat, hs 88 sl88]
  have hw := row_w hI.rr en hn ha
  have ga : ∀ k : Option Ret, gV (nI a) 100 k = k := fun k => gV_nI (by omega) (by decide)
  have gc : ∀ k : Option Ret, gV (nI c) 14 k = k := fun k => gV_nI (by omega) (by decide)
  have c14 : ¬ (14 : Int32) ≤ nI c := nI_ge (b := 14) hc (by decide)
  have gz : ∀ k : Option Ret, gZ (M.1 88 a) k = k := fun k => gZ_01 hw
  rw [f_X6_gather_L12, e_X9_many, bE_s, e1, if_neg (nI_ge ha (by omega)), e4, if_neg c14]
  simp only [jn, f_X9_workerAt, f_X9_jobAt, ga, nI_clamp (show a < 2 ^ 31 by omega), bE_s, g1, g2, nI_1]
  by_cases c1 : M.1 83 a = who
  · by_cases c2 : M.1 84 a = job
    · simp only [c1, c2, if_true, one_ne0, if_false, f_X9_goodAt, ga, nI_clamp (show a < 2 ^ 31 by omega), bE_s, g3]
      by_cases c3 : M.1 85 a ≤ 0
      · simp only [c3, if_true, not_true_eq_false, and_false, if_false]
      · have c4 : ¬ M.1 85 a = 0 := fun w => c3 (by rw [w]; exact i_lerf _)
        simp only [c3, if_false, f_X9_minutesAt, f_X9_isWatched, ga, gc, nI_clamp (show a < 2 ^ 31 by omega), bE_s, g3, g4, gN_n c4, e4, nI_clamp (show c < 2 ^ 31 by omega), bM, up2_ne (show (10 : Nat) ≠ 48 by decide), up2_ne (show (39 : Nat) ≠ 48 by decide), g5, gz, and_01 hw, up2_ne (show (10 : Nat) ≠ 49 by decide), up2_same, upd_s, upd_n (show (4 : Nat) ≠ 5 by decide), nI_1, not_false_eq_true, and_self, if_true, gstep]
        by_cases c5 : M.1 88 a = 0
        · simp only [c5, if_true]
        · simp only [c5, if_false]
    · simp only [c1, c2, if_true, if_false, false_and, and_false]
  · simp only [c1, if_true, if_false, false_and]
theorem gstep_GS {N : Mem} {g : Nat × (Nat → Int32) × (Nat → Int32)} (h : GS N g) (p w : Int32) : GS (gstep N g.1 p w) (g.1 + 1, upd g.2.1 g.1 p, upd g.2.2 g.1 w) := by
  obtain ⟨h1, h2, h3⟩ := h
  refine ⟨?_, ?_, fun k hk => ?_⟩
  · show upd (upd (N.1 10) 5 (N.1 10 5 + if w = 0 then 0 else 1)) 4 (nI g.1 + 1) 4 = nI (g.1 + 1)
    rw [upd_s, nI_1]
  · show upd (upd (N.1 10) 5 (N.1 10 5 + if w = 0 then 0 else 1)) 4 (nI g.1 + 1) 5 = nI (wcN (upd g.2.2 g.1 w) (g.1 + 1))
    rw [upd_n (show (5 : Nat) ≠ 4 by decide), upd_s, h2, wcN_s, upd_s, wcN_congr (V := g.2.2) (fun k hk => upd_n (by omega))]
    by_cases q : w = 0
    · rw [if_pos q, if_pos q, i_a0]; rfl
    · rw [if_neg q, if_neg q, nI_1]
  · show upd (N.1 48) g.1 p k = upd g.2.1 g.1 p k ∧ upd (N.1 49) g.1 w k = upd g.2.2 g.1 w k
    by_cases q : k = g.1
    · rw [q, upd_s, upd_s, upd_s, upd_s]; exact ⟨rfl, rfl⟩
    · rw [upd_n q, upd_n q, upd_n q, upd_n q]
      have hk' : k < g.1 + 1 := hk
      exact h3 k (by omega)
theorem l_gather {M : Mem} (hI : Inv M) {n : Nat} (en : M.1 11 25 = nI n) (hn : n ≤ 100) (who job : Int32) (d : Nat) : ∀ (a k : Nat) (N : Mem), a + d = n → Sl M N → GS N (gat M who job a) → ∃ N' : Mem, f_X6_gather_L12 who job (k + (d + 1)) (nI a) N (fun w28 M29 => some (0, M29)) = some (0, N') ∧ Sl M N' ∧ GS N' (gat M who job n) := by
  induction d with
  | zero =>
    intro a k N hh hs hg
    have : a = n := by omega
    subst this
    have e1 : N.1 6 10 = nI a := by rw [(hs.inv hI).rel.rows, hs 11 sl11, en]
    refine ⟨N, ?_, hs, hg⟩
    rw [show k + (0 + 1) = k + 1 from rfl, f_X6_gather_L12, e_X9_many, bE_s, e1, if_pos (nI_le (Nat.le_refl a) (by omega))]
  | succ d ih =>
    intro a k N hh hs hg
    have hle := gat_le M who job a
    by_cases hc : (gat M who job a).1 = 14
    · have e1 : N.1 6 10 = nI n := by rw [(hs.inv hI).rel.rows, hs 11 sl11, en]
      have e2 : gat M who job n = gat M who job a := by rw [show n = a + (d + 1) by omega]; exact gat_full M who job hc (d + 1)
      refine ⟨N, ?_, hs, by rw [e2]; exact hg⟩
      rw [show k + (d + 1 + 1) = (k + (d + 1)) + 1 from rfl, f_X6_gather_L12, e_X9_many, bE_s, e1, if_neg (nI_ge (show a < n by omega) (by omega)), hg.1, hc, if_pos (show (14 : Int32) ≤ nI 14 by decide)]
    · have hc' : (gat M who job a).1 < 14 := by omega
      rw [show k + (d + 1 + 1) = (k + (d + 1)) + 1 from rfl, gather_un hI en hn who job (show a < n by omega) hc' hs hg.1]
      by_cases q : M.1 83 a = who ∧ M.1 84 a = job ∧ ¬ M.1 85 a ≤ 0
      · rw [if_pos q]
        refine ih (a + 1) k _ (by omega) ?_ ?_
        · exact Sl.up (Sl.up (Sl.up (Sl.up hs (slq_n (by omega))) (slq_n (by omega))) (slq_n (by omega))) (slq_n (by omega))
        · rw [gat_s, if_pos ⟨q, hc'⟩]
          exact gstep_GS hg _ _
      · rw [if_neg q]
        refine ih (a + 1) k N (by omega) hs ?_
        rw [gat_s, if_neg (fun w => q w.1)]
        exact hg
theorem e_gather {M : Mem} (hI : Inv M) {n : Nat} (en : M.1 11 25 = nI n) (hn : n ≤ 100) (who job : Int32) : ∃ N : Mem, f_X6_gather who job M = some (0, N) ∧ Sl M N ∧ GS N (gat M who job n) := by
  obtain ⟨k, hk⟩ := FU_pos (d := n) (by omega)
  obtain ⟨N, n1, n2⟩ := l_gather hI en hn who job n 0 k (up2 (up2 M 10 4 0) 10 5 0) (by omega) (Sl.up (Sl.up (Sl.rf M) (slq_n (by omega))) (slq_n (by omega))) ⟨rfl, rfl, fun k hk => absurd hk (Nat.not_lt_zero k)⟩
  refine ⟨N, ?_, n2⟩
  unfold f_X6_gather bM
  rw [hk]
  exact n1
theorem l_X6_rank {N : Mem} {c : Nat} {P : Nat → Int32} (hc : c ≤ 14) (e : N.1 10 4 = nI c) (hP : ∀ k, k < c → N.1 48 k = P k) {i : Nat} (hi : i < c) (K : Int32 → Int32 → Mem → Option Ret) : ∀ (d a k : Nat), a + d = c → f_X6_rankOf_L4 (nI i) (k + (d + 1)) (nI (smN (r1 P i) a)) (nI a) N K = K (nI (smN (r1 P i) c)) (nI c) N
  | 0, a, k, hh => by
    have : a = c := by omega
    subst this
    rw [show k + (0 + 1) = k + 1 from rfl, f_X6_rankOf_L4, e, if_pos (nI_le (Nat.le_refl a) (by omega))]
  | d + 1, a, k, hh => by
    have ih := l_X6_rank hc e hP hi K d (a + 1) k (by omega)
    rw [smN_s, ← nI_add] at ih
    have g1 : ∀ z : Option Ret, gV (nI a) 14 z = z := fun z => gV_nI (by omega) (by decide)
    have g2 : ∀ z : Option Ret, gV (nI i) 14 z = z := fun z => gV_nI (by omega) (by decide)
    rw [show k + (d + 1 + 1) = (k + (d + 1)) + 1 from rfl, f_X6_rankOf_L4, e, if_neg (nI_ge (show a < c by omega) (by omega))]
    simp only [jn, g1, g2, nI_clamp (show a < 2 ^ 31 by omega), nI_clamp (show i < 2 ^ 31 by omega), hP a (by omega), hP i hi, nI_1]
    unfold r1 at ih ⊢
    by_cases c1 : P i ≤ P a
    · rw [if_pos c1] at ih ⊢
      by_cases c2 : a = i
      · subst c2
        rw [if_pos rfl] at ih ⊢
        rw [show nI 0 = 0 from rfl, i_a0] at ih
        exact ih
      · rw [if_neg c2] at ih
        rw [if_neg (fun w => c2 ((nI_eq (by omega) (by omega)).mp w))]
        by_cases c3 : P a = P i
        · rw [if_pos c3] at ih ⊢; rw [nI_add] at ih; exact ih
        · rw [if_neg c3] at ih ⊢
          rw [show nI 0 = 0 from rfl, i_a0] at ih
          exact ih
    · rw [if_neg c1] at ih ⊢; exact ih
theorem e_X6_rank {N : Mem} {c : Nat} {P : Nat → Int32} (hc : c ≤ 14) (e : N.1 10 4 = nI c) (hP : ∀ k, k < c → N.1 48 k = P k) {i : Nat} (hi : i < c) : f_X6_rankOf (nI i) N = some (nI (rkN P c i), N) := by
  obtain ⟨k, hk⟩ := FU_pos (d := c) (by omega)
  unfold f_X6_rankOf
  rw [hk]
  exact l_X6_rank hc e hP hi (fun w3 w4 M5 => some (w3, M5)) c 0 k (by omega)
theorem l_row {R T m : Nat} (hm0 : 0 < m) (hm : m ≤ 14) (hT : T ≤ 182) (v2 : Int32) (d : Nat) : ∀ (s k : Nat) (N : Mem), s + d = T + 1 → R ≤ s → ∃ N' : Mem, (∀ K : Int32 → Mem → Option Ret, f_X6_addRow_L11 (nI R) v2 (nI T) (nI m) (k + (d + 1)) (nI s) N K = K (nI (T + 1)) N') ∧ (∀ q, q ≠ 51 + m → N'.1 q = N.1 q) ∧ ∀ x, N'.1 (51 + m) x = if s ≤ x ∧ x ≤ T then N.1 (51 + m) x + N.1 (51 + (m - 1)) (x - R) else N.1 (51 + m) x := by
  induction d with
  | zero =>
    intro s k N hh hs
    have : s = T + 1 := by omega
    subst this
    refine ⟨N, fun K => ?_, fun _ _ => rfl, fun x => ?_⟩
    · rw [show k + (0 + 1) = k + 1 from rfl, f_X6_addRow_L11, if_pos (nI_lt (by omega) (by omega))]
    · rw [if_neg (fun w => by omega)]
  | succ d ih =>
    intro s k N hh hs
    obtain ⟨N', n1, n2, n3⟩ := ih (s + 1) k (up2 N (51 + m) s (N.1 (51 + m) s + N.1 (51 + (m - 1)) (s - R))) (by omega) (by omega)
    refine ⟨N', fun K => ?_, fun q hq => (n2 q hq).trans (up2_ne hq), fun x => ?_⟩
    · have e1 : nI m - 1 = nI (m - 1) := pk_sub (b := 1) (by omega)
      have e2 : nI s - nI R = nI (s - R) := pk_sub hs
      have g1 : ∀ z : Option Ret, gV (nI m) 15 z = z := fun z => gV_nI (by omega) (by decide)
      have g2 : ∀ z : Option Ret, gV (nI s) 183 z = z := fun z => gV_nI (by omega) (by decide)
      have g3 : ∀ z : Option Ret, gV (nI (m - 1)) 15 z = z := fun z => gV_nI (by omega) (by decide)
      have g4 : ∀ z : Option Ret, gV (nI (s - R)) 183 z = z := fun z => gV_nI (by omega) (by decide)
      rw [show k + (d + 1 + 1) = (k + (d + 1)) + 1 from rfl, f_X6_addRow_L11, if_neg (nI_nlt (by omega) (by omega))]
      simp only [e1, e2, g1, g2, g3, g4, bM, nI_clamp (show m < 2 ^ 31 by omega), nI_clamp (show s < 2 ^ 31 by omega), nI_clamp (show m - 1 < 2 ^ 31 by omega), nI_clamp (show s - R < 2 ^ 31 by omega), nI_1]
      exact n1 K
    · rw [n3 x, up2_same, up2_ne (show 51 + (m - 1) ≠ 51 + m by omega)]
      by_cases c : x = s
      · subst c
        rw [if_neg (fun w => by omega), if_pos (show x ≤ x ∧ x ≤ T by omega), upd_s]
      · rw [upd_n c]
        by_cases c2 : s ≤ x ∧ x ≤ T
        · rw [if_pos c2, if_pos (show s + 1 ≤ x ∧ x ≤ T by omega)]
        · rw [if_neg c2, if_neg (show ¬ (s + 1 ≤ x ∧ x ≤ T) by omega)]
theorem l_add {R T : Nat} (hT : T ≤ 182) (hR : R ≤ T + 1) (v2 : Int32) : ∀ (m k : Nat) (N : Mem), m ≤ 14 → ∃ N' : Mem, (∀ K : Int32 → Mem → Option Ret, f_X6_addRow_L3 (nI R) v2 (nI T) (k + (m + 1)) (nI m) N K = K (nI 0) N') ∧ (∀ q, ¬ (51 < q ∧ q ≤ 51 + m) → N'.1 q = N.1 q) ∧ ∀ m', 0 < m' → m' ≤ m → ∀ x, N'.1 (51 + m') x = if R ≤ x ∧ x ≤ T then N.1 (51 + m') x + N.1 (51 + (m' - 1)) (x - R) else N.1 (51 + m') x
  | 0, k, N, hm => by
    refine ⟨N, fun K => ?_, fun _ _ => rfl, fun m' h1 h2 => by omega⟩
    rw [show k + (0 + 1) = k + 1 from rfl, f_X6_addRow_L3, if_pos (show nI 0 ≤ 0 by decide)]
  | m + 1, k, N, hm => by
    obtain ⟨z, hz⟩ := FU_pos (d := T + 1 - R) (by omega)
    obtain ⟨N1, a1, a2, a3⟩ := l_row (R := R) (T := T) (m := m + 1) (by omega) hm hT v2 (T + 1 - R) R z N (by omega) (Nat.le_refl R)
    rw [← hz] at a1
    obtain ⟨N', b1, b2, b3⟩ := l_add hT hR v2 m k N1 (by omega)
    refine ⟨N', fun K => ?_, fun q hq => ?_, fun m' h1 h2 x => ?_⟩
    · rw [show k + (m + 1 + 1) = (k + (m + 1)) + 1 from rfl, f_X6_addRow_L3, if_neg (nI_nle (by omega) (by omega))]
      refine (a1 _).trans ?_
      rw [pk_m1]
      exact b1 K
    · rw [b2 q (by omega), a2 q (by omega)]
    · by_cases c : m' = m + 1
      · subst c
        rw [b2 _ (by omega), a3 x]
      · rw [b3 m' h1 (by omega) x, a2 _ (by omega), a2 _ (by omega)]
theorem e_add {R T m : Nat} (hT : T ≤ 182) (hR : R ≤ T + 1) (hm : m ≤ 14) (N : Mem) : ∃ N' : Mem, f_X6_addRow (nI R) (nI m) (nI T) N = some (0, N') ∧ (∀ q, ¬ (51 < q ∧ q ≤ 51 + m) → N'.1 q = N.1 q) ∧ ∀ m', 0 < m' → m' ≤ m → ∀ x, N'.1 (51 + m') x = if R ≤ x ∧ x ≤ T then N.1 (51 + m') x + N.1 (51 + (m' - 1)) (x - R) else N.1 (51 + m') x := by
  obtain ⟨k, hk⟩ := FU_pos (d := m) (by omega)
  obtain ⟨N', a1, a2, a3⟩ := l_add hT hR (nI m) m k N hm
  refine ⟨N', ?_, a2, a3⟩
  unfold f_X6_addRow
  rw [hk]
  exact a1 _
def WY (N : Mem) (R : Nat → Nat) (w i : Nat) : Prop := ∀ m, m ≤ w → ∀ s, s < 183 → N.1 (51 + m) s = nI (cntW R i m s)
theorem WY_step {N N' : Mem} {R : Nat → Nat} {w i mr : Nat} (h : WY N R w i) (hmr : mr = if w < i + 1 then w else i + 1) (hq : ∀ q, ¬ (51 < q ∧ q ≤ 51 + mr) → N'.1 q = N.1 q) (hv : ∀ m', 0 < m' → m' ≤ mr → ∀ x, N'.1 (51 + m') x = if R i ≤ x ∧ x ≤ smN R (i + 1) then N.1 (51 + m') x + N.1 (51 + (m' - 1)) (x - R i) else N.1 (51 + m') x) : WY N' R w (i + 1) := by
  intro m hm s hs
  rw [cntW_i]
  have hmr2 : mr ≤ i + 1 ∧ mr ≤ w ∧ (mr = w ∨ mr = i + 1) := by split at hmr <;> omega
  by_cases c0 : m = 0
  · subst c0
    rw [hq _ (by omega), h 0 (by omega) s hs, if_neg (fun w => by omega), Nat.add_zero]
  · by_cases c1 : m ≤ mr
    · rw [hv m (by omega) c1 s, h m hm s hs]
      by_cases c2 : R i ≤ s
      · rw [if_pos (show 0 < m ∧ R i ≤ s from ⟨by omega, c2⟩)]
        by_cases c3 : s ≤ smN R (i + 1)
        · rw [if_pos ⟨c2, c3⟩, h (m - 1) (by omega) (s - R i) (by omega), nI_add]
        · rw [if_neg (fun w => c3 w.2), cntW_big R (show smN R i < s - R i by rw [smN_s] at c3; omega), Nat.add_zero]
      · rw [if_neg (fun w => c2 w.1), if_neg (fun w => c2 w.2), Nat.add_zero]
    · rw [hq _ (by omega), h m hm s hs, cntW_m R (show i < m - 1 by omega), ite_self, Nat.add_zero]
theorem GS.frame {N N' : Mem} {g : Nat × (Nat → Int32) × (Nat → Int32)} (h : GS N g) (hq : ∀ q, q < 51 → N'.1 q = N.1 q) : GS N' g := by
  unfold GS
  rw [hq 10 (by decide), hq 48 (by decide), hq 49 (by decide)]
  exact h
theorem l_ways {c w : Nat} (hc : c ≤ 14) {P W : Nat → Int32} (hw : w = wcN W c) (hwc : w ≤ 14) (d : Nat) : ∀ (i k : Nat) (N : Mem), i + d = c → GS N (c, P, W) → WY N (rkN P c) w i → ∃ N' : Mem, (∀ K : Int32 → Int32 → Mem → Option Ret, f_X6_countWays_L39 (k + (d + 1)) (nI (smN (rkN P c) i)) (nI i) N K = K (nI (smN (rkN P c) c)) (nI c) N') ∧ (∀ q, q < 51 ∨ 65 < q → N'.1 q = N.1 q) ∧ WY N' (rkN P c) w c := by
  induction d with
  | zero =>
    intro i k N hh hg hy
    have : i = c := by omega
    subst this
    refine ⟨N, fun K => ?_, fun _ _ => rfl, hy⟩
    rw [show k + (0 + 1) = k + 1 from rfl, f_X6_countWays_L39, hg.1, if_pos (nI_le (Nat.le_refl _) (by show i < 2 ^ 31; omega))]
  | succ d ih =>
    intro i k N hh hg hy
    have h4 : N.1 10 4 = nI c := hg.1
    have h5 : N.1 10 5 = nI w := by rw [hw]; exact hg.2.1
    have htot := rk_182 P hc
    have hpart : smN (rkN P c) (i + 1) ≤ smN (rkN P c) c := smN_up (by omega)
    have hmr : (if w < i + 1 then w else i + 1) ≤ 14 := by split <;> omega
    obtain ⟨N1, a1, a2, a3⟩ := e_add (R := rkN P c i) (T := smN (rkN P c) (i + 1)) (m := if w < i + 1 then w else i + 1) (by omega) (by rw [smN_s]; omega) hmr N
    have hfr : ∀ q, q < 51 ∨ 65 < q → N1.1 q = N.1 q := fun q hq => a2 q (by omega)
    obtain ⟨N', b1, b2, b3⟩ := ih (i + 1) k N1 (by omega) (hg.frame (fun q hq => hfr q (Or.inl hq))) (WY_step hy rfl a2 a3)
    refine ⟨N', fun K => ?_, fun q hq => (b2 q hq).trans (hfr q hq), b3⟩
    rw [show k + (d + 1 + 1) = (k + (d + 1)) + 1 from rfl, f_X6_countWays_L39, h4, if_neg (nI_ge (show i < c by omega) (by omega)), e_X6_rank hc h4 (fun k hk => (hg.2.2 k hk).1) (show i < c by omega), bE_s]
    simp only [bI, nI_add, nI_1, h5]
    have e1 : (if nI w < nI (i + 1) then nI w else nI (i + 1)) = nI (if w < i + 1 then w else i + 1) := by
      by_cases q : w < i + 1
      · rw [if_pos q, if_pos (nI_lt q (by omega))]
      · rw [if_neg q, if_neg (nI_nlt (by omega) (by omega))]
    rw [e1, ← smN_s, a1, bE_s]
    exact b1 K
theorem l_clear {w : Nat} (hw : w ≤ 14) (d : Nat) : ∀ (a k : Nat) (N : Mem), a + d = w + 1 → N.1 10 5 = nI w → (∀ m, m < a → ∀ s, s < 183 → N.1 (51 + m) s = 0) → ∃ N' : Mem, (∀ K : Int32 → Mem → Option Ret, f_X6_countWays_L2 (k + (d + 1)) (nI a) N K = K (nI (w + 1)) N') ∧ (∀ q, q < 51 ∨ 65 < q → N'.1 q = N.1 q) ∧ ∀ m, m < w + 1 → ∀ s, s < 183 → N'.1 (51 + m) s = 0 := by
  induction d with
  | zero =>
    intro a k N hh h5 hz
    have : a = w + 1 := by omega
    subst this
    refine ⟨N, fun K => ?_, fun _ _ => rfl, hz⟩
    rw [show k + (0 + 1) = k + 1 from rfl, f_X6_countWays_L2, h5, if_pos (nI_lt (by omega) (by omega))]
  | succ d ih =>
    intro a k N hh h5 hz
    obtain ⟨N1, a1, a2, a3, a4, -⟩ := e_fill (51 + a) 183 (by decide) 0 N
    obtain ⟨N', b1, b2, b3⟩ := ih (a + 1) k N1 (by omega) (by rw [a3 10 (by omega)]; exact h5) (fun m hm s hs => by
      by_cases c : m = a
      · subst c; exact a4 s hs
      · rw [a3 _ (by omega)]; exact hz m (by omega) s hs)
    refine ⟨N', fun K => ?_, fun q hq => (b2 q hq).trans (a3 q (by omega)), b3⟩
    rw [show k + (d + 1 + 1) = (k + (d + 1)) + 1 from rfl, f_X6_countWays_L2, h5, if_neg (nI_nlt (by omega) (by omega)), gV_nI (by omega) (by decide), nI_clamp (by omega), a1, bE_s, nI_1]
    exact b1 K
theorem e_ways {N : Mem} {c w : Nat} (hc : c ≤ 14) {P W : Nat → Int32} (hw : w = wcN W c) (hg : GS N (c, P, W)) : ∃ N' : Mem, f_X6_countWays N = some (0, N') ∧ (∀ q, q < 51 ∨ 65 < q → N'.1 q = N.1 q) ∧ WY N' (rkN P c) w c := by
  have hwc : w ≤ 14 := by have := wcN_le W c; omega
  have h5 : N.1 10 5 = nI w := by rw [hw]; exact hg.2.1
  obtain ⟨k, hk⟩ := FU_pos (d := w + 1) (by omega)
  obtain ⟨k2, hk2⟩ := FU_pos (d := c) (by omega)
  obtain ⟨N1, a1, a2, a3⟩ := l_clear hwc (w + 1) 0 k N (by omega) h5 (fun m hm => absurd hm (Nat.not_lt_zero m))
  rw [← hk] at a1
  have hg2 : GS (up2 N1 51 0 1) (c, P, W) := hg.frame (fun q hq => (up2_ne (by omega)).trans (a2 q (Or.inl hq)))
  have hy : WY (up2 N1 51 0 1) (rkN P c) w 0 := by
    intro m hm s hs
    rw [cntW_0]
    by_cases c0 : m = 0
    · subst c0
      show (up2 N1 51 0 1).1 51 s = _
      rw [up2_same]
      by_cases c1 : s = 0
      · subst c1
        rw [upd_s, if_pos ⟨rfl, rfl⟩]; rfl
      · rw [upd_n c1, if_neg (fun w => c1 w.2)]
        exact a3 0 (by omega) s hs
    · rw [up2_ne (by omega), if_neg (fun w => c0 w.1)]
      exact a3 m (by omega) s hs
  obtain ⟨N', b1, b2, b3⟩ := l_ways hc hw hwc c 0 k2 (up2 N1 51 0 1) (by omega) hg2 hy
  rw [← hk2] at b1
  refine ⟨N', ?_, fun q hq => (b2 q hq).trans ((up2_ne (by omega)).trans (a2 q hq)), b3⟩
  unfold f_X6_countWays
  rw [show nI (smN (rkN P c) 0) = 0 from rfl, show nI 0 = 0 from rfl] at b1
  rw [show nI 0 = 0 from rfl] at a1
  generalize FU = F at a1 b1 ⊢
  refine (a1 _).trans ?_
  rw [show ∀ z : Option Ret, gV (0 : Int32) 15 z = z from fun z => if_neg (by decide), show ∀ z : Option Ret, gV (0 : Int32) 183 z = z from fun z => if_neg (by decide), cl0]
  unfold bM
  exact b1 _
def dueN (P W : Nat → Int32) (c i : Nat) : Nat := smN (fun k => if W k = 0 then 0 else rkN P c k) i
theorem dueN_s (P W : Nat → Int32) (c i : Nat) : dueN P W c (i + 1) = dueN P W c i + if W i = 0 then 0 else rkN P c i := rfl
theorem l_due {N : Mem} {c : Nat} (hc : c ≤ 14) {P W : Nat → Int32} (hg : GS N (c, P, W)) (K : Int32 → Int32 → Mem → Option Ret) : ∀ (d a k : Nat), a + d = c → f_X6_watchedRanks_L4 (k + (d + 1)) (nI (dueN P W c a)) (nI a) N K = K (nI (dueN P W c c)) (nI c) N
  | 0, a, k, hh => by
    have : a = c := by omega
    subst this
    rw [show k + (0 + 1) = k + 1 from rfl, f_X6_watchedRanks_L4, show N.1 10 4 = nI a from hg.1, if_pos (nI_le (Nat.le_refl a) (by omega))]
  | d + 1, a, k, hh => by
    have ih := l_due hc hg K d (a + 1) k (by omega)
    rw [dueN_s, ← nI_add] at ih
    have h4 : N.1 10 4 = nI c := hg.1
    have h49 : N.1 49 a = W a := (hg.2.2 a (by show a < c; omega)).2
    rw [show k + (d + 1 + 1) = (k + (d + 1)) + 1 from rfl, f_X6_watchedRanks_L4, h4, if_neg (nI_ge (show a < c by omega) (by omega)), gV_nI (by omega) (by decide), nI_clamp (by omega), h49, e_X6_rank hc h4 (fun k hk => (hg.2.2 k hk).1) (show a < c by omega)]
    simp only [jn, bE_s, bI, nI_1]
    by_cases q : W a = 0
    · rw [if_pos q] at ih ⊢; exact ih
    · rw [if_neg q] at ih ⊢; exact ih
theorem l_sums {N : Mem} {c w due : Nat} (hw : w ≤ 14) (hd : due < 2 ^ 31) {R : Nat → Nat} (h5 : N.1 10 5 = nI w) (hy : WY N R w c) (K : Int32 → Int32 → Int32 → Mem → Option Ret) : ∀ (d s k : Nat), s + d = 183 → f_X6_isBeyondDoubt_L16 (nI due) (k + (d + 1)) (nI (smN (cntW R c w) s)) (nI (smN (fun s => if s < due then 0 else cntW R c w s) s)) (nI s) N K = K (nI (smN (cntW R c w) 183)) (nI (smN (fun s => if s < due then 0 else cntW R c w s) 183)) (nI 183) N
  | 0, s, k, hh => by
    have : s = 183 := by omega
    subst this
    rw [show k + (0 + 1) = k + 1 from rfl, f_X6_isBeyondDoubt_L16, if_pos (show (182 : Int32) < nI 183 by decide)]
  | d + 1, s, k, hh => by
    have ih := l_sums hw hd h5 hy K d (s + 1) k (by omega)
    rw [smN_s, smN_s, ← nI_add, ← nI_add] at ih
    have g1 : ∀ z : Option Ret, gV (nI w) 15 z = z := fun z => gV_nI (by omega) (by decide)
    have g2 : ∀ z : Option Ret, gV (nI s) 183 z = z := fun z => gV_nI (by omega) (by decide)
    have g3 : ¬ (182 : Int32) < nI s := nI_nlt (a := 182) (by omega) (by decide)
    rw [show k + (d + 1 + 1) = (k + (d + 1)) + 1 from rfl, f_X6_isBeyondDoubt_L16, if_neg g3, h5]
    simp only [g1, g2, bI, jn, nI_clamp (show w < 2 ^ 31 by omega), nI_clamp (show s < 2 ^ 31 by omega), hy w (Nat.le_refl w) s (by omega), nI_1]
    by_cases q : s < due
    · rw [if_pos q] at ih
      rw [if_pos (nI_lt q hd)]; exact ih
    · rw [if_neg q] at ih
      rw [if_neg (nI_nlt (by omega) (by omega))]; exact ih
def slv (P W : Nat → Int32) (c : Nat) : Int32 := if nI (smN (cntW (rkN P c) c (wcN W c)) 183) < 20 * nI (smN (fun s => if s < dueN P W c c then 0 else cntW (rkN P c) c (wcN W c) s) 183) then 0 else 1
theorem due_le (P W : Nat → Int32) (c : Nat) (hc : c ≤ 14) : dueN P W c c ≤ 182 := by
  refine Nat.le_trans (smN_mono (g := rkN P c) (fun k _ => ?_)) (rk_182 P hc)
  split <;> omega
theorem e_doubt {N : Mem} {c : Nat} (hc : c ≤ 14) {P W : Nat → Int32} (hg : GS N (c, P, W)) : ∃ N' : Mem, f_X6_isBeyondDoubt N = some (slv P W c, N') ∧ (∀ q, q < 51 ∨ 65 < q → N'.1 q = N.1 q) := by
  obtain ⟨N', a1, a2, a3⟩ := e_ways hc rfl hg
  have hg' : GS N' (c, P, W) := hg.frame (fun q hq => a2 q (Or.inl hq))
  have hw : wcN W c ≤ 14 := by have := wcN_le W c; omega
  have hd := due_le P W c hc
  obtain ⟨k, hk⟩ := FU_pos (d := c) (by omega)
  obtain ⟨k2, hk2⟩ := FU_pos (d := 183) (by omega)
  refine ⟨N', ?_, a2⟩
  have b1 : f_X6_watchedRanks N' = some (nI (dueN P W c c), N') := by
    unfold f_X6_watchedRanks
    rw [hk]
    exact l_due hc hg' (fun w7 w8 M9 => some (w7, M9)) c 0 k (by omega)
  unfold f_X6_isBeyondDoubt
  rw [a1, bE_s, b1, bE_s, hk2]
  refine (l_sums hw (by omega) hg'.2.1 a3 _ 183 0 k2 (by omega)).trans ?_
  simp only [jn]
  unfold slv
  by_cases q : nI (smN (cntW (rkN P c) c (wcN W c)) 183) < 20 * nI (smN (fun s => if s < dueN P W c c then 0 else cntW (rkN P c) c (wcN W c) s) 183)
  · rw [if_pos q, if_pos q, gZ_0]
  · rw [if_neg q, if_neg q, gZ_1]
