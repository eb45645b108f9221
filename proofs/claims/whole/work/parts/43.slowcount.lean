/-! SLOW: plain counting -/
theorem smN_split (f : Nat → Nat) (x : Nat) : ∀ y : Nat, smN f (x + y) = smN f x + smN (fun k => f (x + k)) y
  | 0 => rfl
  | y + 1 => by
    rw [show x + (y + 1) = (x + y) + 1 from rfl, smN_s, smN_s, smN_split f x y]
    omega
theorem smN_z {f : Nat → Nat} : ∀ {n : Nat}, (∀ i, i < n → f i = 0) → smN f n = 0
  | 0, _ => rfl
  | n + 1, h => by rw [smN_s, smN_z (fun i hi => h i (Nat.lt_succ_of_lt hi)), h n (Nat.lt_succ_self n)]
theorem smN_up {f : Nat → Nat} {x y : Nat} (h : x ≤ y) : smN f x ≤ smN f y := by
  obtain ⟨d, rfl⟩ := Nat.le.dest h
  rw [smN_split]
  omega
def r1 (P : Nat → Int32) (k t : Nat) : Nat := if P k ≤ P t then (if t = k then 0 else if P t = P k then 1 else 0) else 2
theorem r1_self (P : Nat → Int32) (k : Nat) : r1 P k k = 0 := by
  unfold r1
  rw [if_pos (i_lerf _), if_pos rfl]
theorem r1_two (P : Nat → Int32) {k t : Nat} (h : k ≠ t) : r1 P k t + r1 P t k = 2 := by
  unfold r1
  by_cases c : P t = P k
  · have h' : ¬ t = k := fun w => h w.symm
    simp only [c, i_lerf, h, h', if_true, if_false]
  · have c' : ¬ P k = P t := fun w => c w.symm
    by_cases q : P k ≤ P t
    · have q2 : ¬ P t ≤ P k := by
        intro w
        rw [i_le] at q w
        exact c (i_eq.mpr (by omega))
      rw [if_pos q, if_neg (fun w => h w.symm), if_neg c, if_neg q2]
    · have q2 : P t ≤ P k := by
        rw [i_le] at q ⊢
        omega
      rw [if_neg q, if_pos q2, if_neg h, if_neg c']
def rkN (P : Nat → Int32) (c k : Nat) : Nat := smN (r1 P k) c
theorem rk_tot (P : Nat → Int32) : ∀ c : Nat, smN (rkN P c) c + c = c * c
  | 0 => rfl
  | c + 1 => by
    have ih := rk_tot P c
    have e1 : smN (rkN P (c + 1)) c = smN (rkN P c) c + smN (fun k => r1 P k c) c := smN_add (rkN P c) (fun k => r1 P k c) c
    have e2 : rkN P (c + 1) c = smN (r1 P c) c + r1 P c c := rfl
    have e3 : smN (fun k => r1 P k c) c + smN (r1 P c) c = c * 2 := by
      rw [← smN_add]
      have t1 : smN (fun j => r1 P j c + r1 P c j) c = smN (fun _ => 2) c := smN_congr (fun j hj => r1_two P (by omega))
      have t2 : ∀ n, smN (fun _ => 2) n = n * 2 := by
        intro n
        induction n with
        | zero => rfl
        | succ n ih => rw [smN_s, ih]; omega
      rw [t1, t2]
    rw [smN_s, e1, e2, r1_self, Nat.add_mul, Nat.mul_add]
    omega
theorem rk_182 (P : Nat → Int32) {c : Nat} (hc : c ≤ 14) : smN (rkN P c) c ≤ 182 := by
  have h := rk_tot P c
  have : c * c ≤ 14 * c := Nat.mul_le_mul_right c hc
  omega
def cntW (R : Nat → Nat) : Nat → Nat → Nat → Nat
  | 0, m, s => if m = 0 ∧ s = 0 then 1 else 0
  | i + 1, m, s => cntW R i m s + if 0 < m ∧ R i ≤ s then cntW R i (m - 1) (s - R i) else 0
theorem cntW_0 (R : Nat → Nat) (m s : Nat) : cntW R 0 m s = if m = 0 ∧ s = 0 then 1 else 0 := rfl
theorem cntW_i (R : Nat → Nat) (i m s : Nat) : cntW R (i + 1) m s = cntW R i m s + if 0 < m ∧ R i ≤ s then cntW R i (m - 1) (s - R i) else 0 := rfl
theorem cntW_m (R : Nat → Nat) : ∀ {i m s : Nat}, i < m → cntW R i m s = 0
  | 0, m, s, h => by rw [cntW_0, if_neg (fun w => by omega)]
  | i + 1, m, s, h => by
    rw [cntW_i, cntW_m R (show i < m by omega), cntW_m R (show i < m - 1 by omega)]
    split <;> rfl
theorem cntW_big (R : Nat → Nat) : ∀ {i m s : Nat}, smN R i < s → cntW R i m s = 0
  | 0, m, s, h => by rw [cntW_0, if_neg (fun w => by omega)]
  | i + 1, m, s, h => by
    rw [smN_s] at h
    rw [cntW_i, cntW_big R (show smN R i < s by omega)]
    by_cases q : 0 < m ∧ R i ≤ s
    · rw [if_pos q, cntW_big R (show smN R i < s - R i by omega)]
    · rw [if_neg q]
def Xf (R : Nat → Nat) : Nat → Nat → (Nat → Nat) → Nat
  | 0, m, f => if m = 0 then f 0 else 0
  | i + 1, m, f => Xf R i m f + if 0 < m then Xf R i (m - 1) (fun s => f (s + R i)) else 0
theorem Xf_0 (R : Nat → Nat) (m : Nat) (f : Nat → Nat) : Xf R 0 m f = if m = 0 then f 0 else 0 := rfl
theorem Xf_i (R : Nat → Nat) (i m : Nat) (f : Nat → Nat) : Xf R (i + 1) m f = Xf R i m f + if 0 < m then Xf R i (m - 1) (fun s => f (s + R i)) else 0 := rfl
theorem X_cnt (R : Nat → Nat) {B : Nat} : ∀ (i m : Nat) (f : Nat → Nat), smN R i < B → smN (fun s => f s * cntW R i m s) B = Xf R i m f
  | 0, m, f, h => by
    obtain ⟨b, rfl⟩ : ∃ b, B = 1 + b := ⟨B - 1, by omega⟩
    rw [smN_split, Xf_0, smN_z (n := b) (fun k _ => by rw [cntW_0, if_neg (fun w => by omega)]; rfl)]
    show 0 + f 0 * cntW R 0 m 0 + 0 = _
    rw [cntW_0]
    by_cases q : m = 0
    · rw [if_pos ⟨q, rfl⟩, if_pos q]; omega
    · rw [if_neg (fun w => q w.1), if_neg q]; omega
  | i + 1, m, f, h => by
    have hS : smN R (i + 1) = smN R i + R i := rfl
    have e1 : smN (fun s => f s * cntW R (i + 1) m s) B = smN (fun s => f s * cntW R i m s) B + smN (fun s => f s * (if 0 < m ∧ R i ≤ s then cntW R i (m - 1) (s - R i) else 0)) B := by
      rw [← smN_add]
      exact smN_congr (fun s _ => by rw [cntW_i, Nat.mul_add])
    rw [e1, X_cnt R i m f (by omega), Xf_i]
    congr 1
    by_cases q : 0 < m
    · rw [if_pos q, ← X_cnt R i (m - 1) (fun s => f (s + R i)) (show smN R i < B by omega)]
      have e2 : B = R i + (B - R i) := by omega
      have e3 : B = (B - R i) + R i := by omega
      conv => lhs; rw [e2, smN_split]
      conv => rhs; rw [e3, smN_split]
      rw [smN_z (n := R i) (fun s hs => by rw [if_neg (fun w => by omega)]; rfl), smN_z (n := R i) (fun s hs => by rw [cntW_big R (by omega)]; rfl), Nat.zero_add, Nat.add_zero]
      refine smN_congr (fun s _ => ?_)
      rw [if_pos ⟨q, by omega⟩, Nat.add_comm s (R i), show R i + s - R i = s by omega]
    · rw [if_neg q]
      exact smN_z (fun s _ => by rw [if_neg (fun w => q w.1)]; rfl)
theorem bt_lo {u i : Nat} (h : u < 2 ^ i) : u / 2 ^ i % 2 = 0 := by rw [Nat.div_eq_of_lt h]
theorem bt_hi {u i : Nat} (h : u < 2 ^ i) : (2 ^ i + u) / 2 ^ i % 2 = 1 := by
  rw [Nat.add_comm, Nat.add_div_right _ (Nat.two_pow_pos i), Nat.div_eq_of_lt h]
theorem bt_mid {u i k : Nat} (h : k < i) : (2 ^ i + u) / 2 ^ k % 2 = u / 2 ^ k % 2 := by
  obtain ⟨d, rfl⟩ : ∃ d, i = k + (d + 1) := ⟨i - k - 1, by omega⟩
  rw [Nat.pow_add, Nat.add_comm, Nat.add_mul_div_left _ _ (Nat.two_pow_pos k), Nat.pow_succ]
  omega
def sbN (R : Nat → Nat) (t i : Nat) : Nat := smN (fun k => if t / 2 ^ k % 2 = 1 then R k else 0) i
theorem sbN_s (R : Nat → Nat) (t i : Nat) : sbN R t (i + 1) = sbN R t i + if t / 2 ^ i % 2 = 1 then R i else 0 := rfl
theorem X_sub (R : Nat → Nat) : ∀ (i m : Nat) (f : Nat → Nat), smN (fun t => if onN t i = m then f (sbN R t i) else 0) (2 ^ i) = Xf R i m f
  | 0, m, f => by
    rw [Xf_0]
    show 0 + (if 0 = m then f 0 else 0) = _
    by_cases q : m = 0
    · rw [if_pos q.symm, if_pos q, Nat.zero_add]
    · rw [if_neg (fun w => q w.symm), if_neg q]
  | i + 1, m, f => by
    rw [show 2 ^ (i + 1) = 2 ^ i + 2 ^ i by rw [Nat.pow_succ]; omega, smN_split, Xf_i]
    have e1 : smN (fun t => if onN t (i + 1) = m then f (sbN R t (i + 1)) else 0) (2 ^ i) = Xf R i m f := by
      rw [← X_sub R i m f]
      refine smN_congr (fun t ht => ?_)
      rw [onN_s, sbN_s, bt_lo ht, if_neg (show ¬ (0 : Nat) = 1 by decide), Nat.add_zero, Nat.add_zero]
    rw [e1]
    congr 1
    have o1 : ∀ u, onN (2 ^ i + u) i = onN u i := fun u => smN_congr (fun k hk => bt_mid hk)
    have s1 : ∀ u, sbN R (2 ^ i + u) i = sbN R u i := fun u => smN_congr (fun k hk => by rw [bt_mid hk])
    by_cases q : 0 < m
    · rw [if_pos q, ← X_sub R i (m - 1) (fun s => f (s + R i))]
      refine smN_congr (fun u hu => ?_)
      rw [onN_s, sbN_s, bt_hi hu, if_pos rfl, o1, s1]
      by_cases q2 : onN u i + 1 = m
      · rw [if_pos q2, if_pos (show onN u i = m - 1 by omega)]
      · rw [if_neg q2, if_neg (show ¬ onN u i = m - 1 by omega)]
    · rw [if_neg q]
      refine smN_z (fun u hu => ?_)
      rw [onN_s, bt_hi hu, if_neg (by omega)]
/-- the mask of those that are watched -/
def mkN (W : Nat → Int32) (c : Nat) : Nat := smN (fun k => if W k = 0 then 0 else 2 ^ k) c
theorem mkN_s (W : Nat → Int32) (c : Nat) : mkN W (c + 1) = mkN W c + if W c = 0 then 0 else 2 ^ c := rfl
theorem mkN_lt (W : Nat → Int32) : ∀ c : Nat, mkN W c < 2 ^ c
  | 0 => Nat.lt_succ_self 0
  | c + 1 => by
    have := mkN_lt W c
    rw [mkN_s, Nat.pow_succ]
    split <;> omega
theorem mkN_bit (W : Nat → Int32) {b : Nat} : ∀ {c : Nat}, mkN W c / 2 ^ b % 2 = if b < c then (if W b = 0 then 0 else 1) else 0
  | 0 => by
    show 0 / 2 ^ b % 2 = _
    rw [Nat.zero_div, if_neg (Nat.not_lt_zero b)]
  | c + 1 => by
    have ih := mkN_bit W (b := b) (c := c)
    have hl := mkN_lt W c
    rw [mkN_s]
    rcases Nat.lt_trichotomy b c with h | h | h
    · rw [if_pos (show b < c + 1 by omega)]
      rw [if_pos h] at ih
      by_cases q : W c = 0
      · rw [if_pos q, Nat.add_zero]; exact ih
      · rw [if_neg q, Nat.add_comm, bt_mid h]; exact ih
    · subst h
      rw [if_pos (show b < b + 1 by omega)]
      by_cases q : W b = 0
      · rw [if_pos q, if_pos q, Nat.add_zero]; exact bt_lo hl
      · rw [if_neg q, if_neg q, Nat.add_comm]; exact bt_hi hl
    · rw [if_neg (show ¬ b < c + 1 by omega)]
      have h2 : 2 ^ (c + 1) ≤ 2 ^ b := Nat.pow_le_pow_right (by decide) (by omega)
      rw [Nat.pow_succ] at h2
      refine bt_lo ?_
      split <;> omega
def wcN (W : Nat → Int32) (c : Nat) : Nat := smN (fun k => if W k = 0 then 0 else 1) c
theorem wcN_s (W : Nat → Int32) (c : Nat) : wcN W (c + 1) = wcN W c + if W c = 0 then 0 else 1 := rfl
theorem wcN_le (W : Nat → Int32) (c : Nat) : wcN W c ≤ c := by
  have := smN_le (g := fun k => if W k = 0 then 0 else 1) (B := 1) (n := c) (fun k _ => by split <;> omega)
  unfold wcN
  omega
theorem ones_mk (W : Nat → Int32) {c : Nat} (hc : c ≤ 14) : onN (mkN W c) 14 = wcN W c := by
  unfold onN wcN
  rw [show (14 : Nat) = c + (14 - c) by omega, smN_split, smN_z (n := 14 - c) (fun k _ => by rw [mkN_bit, if_neg (by omega)]), Nat.add_zero]
  exact smN_congr (fun k hk => by rw [mkN_bit, if_pos hk])
theorem onN_14 {t c : Nat} (ht : t < 2 ^ c) (hc : c ≤ 14) : onN t 14 = onN t c := by
  unfold onN
  rw [show (14 : Nat) = c + (14 - c) by omega, smN_split, smN_z (n := 14 - c) (fun k _ => ?_), Nat.add_zero]
  refine bt_lo (Nat.lt_of_lt_of_le ht (Nat.pow_le_pow_right (by decide) (by omega)))
theorem sbN_le (R : Nat → Nat) (t i : Nat) : sbN R t i ≤ smN R i := smN_mono (fun k _ => by split <;> omega)
