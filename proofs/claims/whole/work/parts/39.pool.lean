/-! POOLS -/
def smL (f : Nat → Int64) : Nat → Int64
  | 0 => 0
  | n + 1 => smL f n + f n
def smN (f : Nat → Nat) : Nat → Nat
  | 0 => 0
  | n + 1 => smN f n + f n
theorem smL_s (f : Nat → Int64) (n : Nat) : smL f (n + 1) = smL f n + f n := rfl
theorem smN_s (f : Nat → Nat) (n : Nat) : smN f (n + 1) = smN f n + f n := rfl
theorem sm_nat {f : Nat → Int32} {g : Nat → Nat} : ∀ {n : Nat}, (∀ j, j < n → f j = nI (g j)) → sm f n = nI (smN g n)
  | 0, _ => rfl
  | n + 1, h => by
    rw [sm_succ, sm_nat (fun j hj => h j (Nat.lt_succ_of_lt hj)), h n (Nat.lt_succ_self n), nI_add, smN_s]
theorem smL_nat {f : Nat → Int64} {g : Nat → Nat} : ∀ {n : Nat}, (∀ j, j < n → f j = lN (g j)) → smL f n = lN (smN g n)
  | 0, _ => rfl
  | n + 1, h => by
    rw [smL_s, smL_nat (fun j hj => h j (Nat.lt_succ_of_lt hj)), h n (Nat.lt_succ_self n), lN_add, smN_s]
theorem smN_le {g : Nat → Nat} {B : Nat} : ∀ {n : Nat}, (∀ j, j < n → g j ≤ B) → smN g n ≤ n * B
  | 0, _ => Nat.zero_le _
  | n + 1, h => by
    have h1 := smN_le (fun j hj => h j (Nat.lt_succ_of_lt hj))
    have h2 := h n (Nat.lt_succ_self n)
    rw [smN_s, Nat.succ_mul]
    omega
theorem smN_mono {f g : Nat → Nat} : ∀ {n : Nat}, (∀ j, j < n → f j ≤ g j) → smN f n ≤ smN g n
  | 0, _ => Nat.le_refl _
  | n + 1, h => by
    have h1 := smN_mono (fun j hj => h j (Nat.lt_succ_of_lt hj))
    have h2 := h n (Nat.lt_succ_self n)
    rw [smN_s, smN_s]
    omega
theorem smN_add (f g : Nat → Nat) : ∀ n : Nat, smN (fun j => f j + g j) n = smN f n + smN g n
  | 0 => rfl
  | n + 1 => by
    rw [smN_s, smN_s, smN_s, smN_add f g n]
    omega
theorem smN_one {f : Nat → Nat} {x : Nat} : ∀ {n : Nat}, x < n → f x ≤ smN f n
  | 0, h => absurd h (Nat.not_lt_zero x)
  | n + 1, h => by
    rw [smN_s]
    by_cases q : x = n
    · subst q; omega
    · have := smN_one (f := f) (show x < n by omega)
      omega
theorem smN_congr {f g : Nat → Nat} : ∀ {n : Nat}, (∀ j, j < n → f j = g j) → smN f n = smN g n
  | 0, _ => rfl
  | n + 1, h => by
    rw [smN_s, smN_s, smN_congr (fun j hj => h j (Nat.lt_succ_of_lt hj)), h n (Nat.lt_succ_self n)]
/-- each row belongs to one worker -/
theorem one_of {x : Int32} {c : Prop} [Decidable c] {e : Nat} : ∀ {m : Nat}, m < 2 ^ 31 → smN (fun k => if x = nI k ∧ c then e else 0) m ≤ e ∧ ((∀ k, k < m → ¬ x = nI k) → smN (fun k => if x = nI k ∧ c then e else 0) m = 0)
  | 0, _ => ⟨Nat.zero_le _, fun _ => rfl⟩
  | m + 1, hm => by
    obtain ⟨h1, h2⟩ := one_of (x := x) (c := c) (e := e) (show m < 2 ^ 31 by omega)
    refine ⟨?_, fun hk => ?_⟩
    · rw [smN_s]
      by_cases q : x = nI m
      · rw [h2 (fun k hk q2 => absurd ((nI_eq (by omega) (by omega)).mp (q2.symm.trans q)) (by omega))]
        by_cases q3 : c
        · rw [if_pos ⟨q, q3⟩]; omega
        · rw [if_neg (fun z => q3 z.2)]; omega
      · rw [if_neg (fun z => q z.1)]; omega
    · rw [smN_s, h2 (fun k hk2 => hk k (by omega)), if_neg (fun z => hk m (by omega) z.1)]
theorem split_le {wr wk : Nat → Int32} {w : Int32} {e : Nat → Nat} {B : Nat} : ∀ {n : Nat}, (∀ i, i < n → e i ≤ B) → smN (fun k => smN (fun i => if wr i = nI k ∧ wk i = w then e i else 0) n) 8 ≤ n * B
  | 0, _ => Nat.zero_le _
  | n + 1, h => by
    have h1 := split_le (wr := wr) (wk := wk) (w := w) (fun i hi => h i (Nat.lt_succ_of_lt hi))
    have h2 := (one_of (x := wr n) (c := wk n = w) (e := e n) (show 8 < 2 ^ 31 by decide)).1
    have h3 := h n (Nat.lt_succ_self n)
    have h4 : smN (fun k => smN (fun i => if wr i = nI k ∧ wk i = w then e i else 0) (n + 1)) 8 = smN (fun k => smN (fun i => if wr i = nI k ∧ wk i = w then e i else 0) n) 8 + smN (fun k => if wr n = nI k ∧ wk n = w then e n else 0) 8 := smN_add _ _ 8
    rw [h4, Nat.succ_mul]
    omega
theorem isN_nat {B : Nat} {x : Int32} (h : isN B x) (hB : B < 2 ^ 31) : x = nI x.toNatClampNeg ∧ x.toNatClampNeg ≤ B := by
  obtain ⟨n, hn, rfl⟩ := h
  rw [nI_clamp (by omega)]
  exact ⟨rfl, hn⟩
theorem sE_nat {M : Mem} (h : Rr M) {nr n na : Nat} (hnr : nr ≤ 40) (er : M.1 11 17 = nI nr) (en : M.1 11 25 = nI n) (hn : n ≤ 100) (ea : M.1 11 33 = nI na) (hna : na ≤ 60) (who w : Int32) : sE M nr n who w = nI (smN (fun i => if M.1 83 i = who ∧ M.1 82 i = w then (erv M nr i).toNatClampNeg else 0) n) := by
  unfold sE
  refine sm_nat (fun i hi => ?_)
  by_cases q : M.1 83 i = who ∧ M.1 82 i = w
  · rw [if_pos q, if_pos q]
    exact (isN_nat (erv_N h hnr er en hn hi) (by decide)).1
  · rw [if_neg q, if_neg q]; rfl
theorem sW_N {M : Mem} (h : Rr M) {nr n na : Nat} (hnr : nr ≤ 40) (er : M.1 11 17 = nI nr) (en : M.1 11 25 = nI n) (hn : n ≤ 100) (ea : M.1 11 33 = nI na) (hna : na ≤ 60) (who w : Int32) : isN 300000 (sW M n who w) := by
  unfold sW
  obtain ⟨k, k1, k2, k3⟩ := h.w
  have : k = n := (nI_eq (by omega) (by omega)).mp (k2.symm.trans en)
  subst this
  refine isN_mono (sm_isN (B := 3000) (fun i hi => ?_)) (show k * 3000 ≤ 300000 by omega)
  by_cases q : M.1 83 i = who ∧ M.1 82 i = w
  · rw [if_pos q]
    obtain ⟨-, -, -, -, -, ⟨x, -, hx, ex⟩, -⟩ := k3 i hi
    exact ⟨x, hx, ex⟩
  · rw [if_neg q]; exact isN_0 _
theorem sA_N {M : Mem} (h : Rr M) {nr n na : Nat} (hnr : nr ≤ 40) (er : M.1 11 17 = nI nr) (en : M.1 11 25 = nI n) (hn : n ≤ 100) (ea : M.1 11 33 = nI na) (hna : na ≤ 60) (who w : Int32) : isN 180000 (sA M na who w) := by
  unfold sA
  obtain ⟨k, k1, k2, k3, -⟩ := h.a
  have : k = na := (nI_eq (by omega) (by omega)).mp (k2.symm.trans ea)
  subst this
  refine isN_mono (sm_isN (B := 3000) (fun i hi => ?_)) (show k * 3000 ≤ 180000 by omega)
  by_cases q : M.1 90 i = who ∧ M.1 89 i = w
  · rw [if_pos q]
    obtain ⟨-, -, -, ⟨x, -, hx, ex⟩⟩ := k3 i hi
    exact ⟨x, hx, ex⟩
  · rw [if_neg q]; exact isN_0 _
theorem alv_nat {M : Mem} (h : Rr M) {nr n na : Nat} (hnr : nr ≤ 40) (er : M.1 11 17 = nI nr) (en : M.1 11 25 = nI n) (hn : n ≤ 100) (ea : M.1 11 33 = nI na) (hna : na ≤ 60) (who w : Int32) : ∃ x : Nat, alv M nr n na who w = nI x ∧ x ≤ smN (fun i => if M.1 83 i = who ∧ M.1 82 i = w then (erv M nr i).toNatClampNeg else 0) n + 480000 := by
  have hE := sE_nat h hnr er en hn ea hna who w
  have hW := sW_N h hnr er en hn ea hna who w
  have hA := sA_N h hnr er en hn ea hna who w
  have u2 : isN 100 (M.1 80 2) := h.u 2 (by decide)
  have u4 : isN 100 (M.1 80 4) := h.u 4 (by decide)
  obtain ⟨f, hf, ef⟩ : isN 180000 (fwv M na who w) := isN_div (isN_mul hA u2) (by decide) (d := 100) (by decide) (by decide)
  obtain ⟨s, hs, es⟩ : isN 480000 (suv M n na who w) := isN_div (isN_mul (isN_add hW hA) u4) (by decide) (d := 100) (by decide) (by decide)
  unfold alv
  by_cases q : suv M n na who w ≤ sE M nr n who w + fwv M na who w
  · rw [if_pos q, hE, ef, nI_add]
    exact ⟨_, rfl, by omega⟩
  · rw [if_neg q, es]
    exact ⟨s, rfl, by omega⟩
def bit (s k : Int32) : Prop := (s >>> (k &&& 31)) &&& 1 = 1
theorem e_X10_isIn (s k : Int32) (M : Mem) : f_X10_isIn s k M = some (if (s >>> (k &&& 31)) &&& 1 = 1 then 1 else 0, M) := by
  unfold f_X10_isIn
  rw [jn_ite]
  by_cases q : (s >>> (k &&& 31)) &&& 1 = 1
  · simp only [q, if_true, gZ_1]
  · simp only [q, if_false, gZ_0]
theorem and1 (x : Int32) : x &&& 1 = 0 ↔ ¬ x &&& 1 = 1 := by
  obtain ⟨j, hj, e⟩ := pk_andE x (m := 1) 1 (by decide)
  rw [e]
  rcases (show j = 0 ∨ j = 1 by omega) with rfl | rfl
  · exact ⟨fun _ => by decide, fun _ => rfl⟩
  · exact ⟨fun q => absurd q (by decide), fun q => absurd rfl q⟩
def p0 (M : Mem) (nr n na : Nat) (s w : Int32) : Nat → Int64 := fun k => if (s >>> (nI k &&& 31)) &&& 1 = 1 then (alv M nr n na (nI k) w).toInt64 else 0
def p3 (M : Mem) (n : Nat) (s w : Int32) : Nat → Int32 := fun k => if (s >>> (nI k &&& 31)) &&& 1 = 1 then sW M n (nI k) w else 0
def p3l (M : Mem) (n : Nat) (s w : Int32) : Nat → Int64 := fun k => (p3 M n s w k).toInt64
theorem l_a0 (x : Int64) : x + 0 = x := Int64.add_zero x
theorem z64 : (0 : Int32).toInt64 = 0 := by decide
theorem le8 : (8 : Int32) ≤ nI 8 := by decide
theorem n_le8 {k : Nat} (h : k < 8) : ¬ (8 : Int32) ≤ nI k := nI_ge (b := 8) h (by decide)
theorem l_X3_share1 {M : Mem} (h : Rr M) {nr n na : Nat} (hnr : nr ≤ 40) (er : M.1 11 17 = nI nr) (en : M.1 11 25 = nI n) (hn : n ≤ 100) (ea : M.1 11 33 = nI na) (hna : na ≤ 60) (s w who : Int32) (K : Int64 → Int64 → Int32 → Mem → Option Ret) : ∀ (d a k : Nat), a + d = 8 → f_X3_shareOf_L9 s w who (k + (d + 1)) (smL (p0 M nr n na s w) a) (smL (p3l M n s w) a) (nI a) M K = K (smL (p0 M nr n na s w) 8) (smL (p3l M n s w) 8) (nI 8) M
  | 0, a, k, hh => by
    have : a = 8 := by omega
    subst this
    rw [show k + (0 + 1) = k + 1 from rfl, f_X3_shareOf_L9, if_pos le8]
  | d + 1, a, k, hh => by
    have ih := l_X3_share1 h hnr er en hn ea hna s w who K d (a + 1) k (by omega)
    rw [smL_s, smL_s] at ih
    rw [show k + (d + 1 + 1) = (k + (d + 1)) + 1 from rfl, f_X3_shareOf_L9, if_neg (n_le8 (by omega))]
    simp only [jn, e_X10_isIn, bE_s, e_X3_allOf h hnr er en hn ea hna, e_X9_minutesIn h hnr er en hn ea hna, bI, nI_1]
    simp only [p3l, p0, p3] at ih ⊢
    by_cases c : (s >>> (nI a &&& 31)) &&& 1 = 1
    · simp only [c, if_true, one_ne0, if_false] at ih ⊢; exact ih
    · simp only [c, if_true, if_false, l_a0, z64] at ih ⊢; exact ih
theorem l_X11_pool1 {M : Mem} (h : Rr M) {nr n na : Nat} (hnr : nr ≤ 40) (er : M.1 11 17 = nI nr) (en : M.1 11 25 = nI n) (hn : n ≤ 100) (ea : M.1 11 33 = nI na) (hna : na ≤ 60) (s w who : Int32) (K : Int64 → Int64 → Int32 → Mem → Option Ret) : ∀ (d a k : Nat), a + d = 8 → f_X11_pool_L48 s w who (k + (d + 1)) (smL (p0 M nr n na s w) a) (smL (p3l M n s w) a) (nI a) M K = K (smL (p0 M nr n na s w) 8) (smL (p3l M n s w) 8) (nI 8) M
  | 0, a, k, hh => by
    have : a = 8 := by omega
    subst this
    rw [show k + (0 + 1) = k + 1 from rfl, f_X11_pool_L48, if_pos le8]
  | d + 1, a, k, hh => by
    have ih := l_X11_pool1 h hnr er en hn ea hna s w who K d (a + 1) k (by omega)
    rw [smL_s, smL_s] at ih
    rw [show k + (d + 1 + 1) = (k + (d + 1)) + 1 from rfl, f_X11_pool_L48, if_neg (n_le8 (by omega))]
    simp only [jn, bE_s, e_X11_payOf h hnr er en hn ea hna, bI, nI_1]
    simp only [p3l, p0, p3] at ih ⊢
    by_cases c : (s >>> (nI a &&& 31)) &&& 1 = 1
    · simp only [c, if_true, one_ne0, if_false] at ih ⊢; exact ih
    · simp only [c, if_true, if_false, l_a0, z64] at ih ⊢; exact ih
def lfv (al mn : Int64) (z : Nat → Int32) : Nat → Int64
  | 0 => al
  | k + 1 => lfv al mn z k - (al * (z k).toInt64) / mn
def ahv (z : Nat → Int32) (who : Int32) : Nat → Int32
  | 0 => 0
  | k + 1 => ahv z who k + (if z k ≤ 0 then 0 else if who ≤ nI k then 0 else 1)
def owv (al mn : Int64) (z : Nat → Int32) (x : Nat) (k : Nat) : Int64 := if x < k then (al * (z x).toInt64) / mn else 0
theorem gNL_n {y : Int64} {k : Option Ret} (h : ¬ y = 0) : gNL y k = k := if_neg h
theorem jn_ite3 {α : Type} {c d : Prop} [Decidable c] [Decidable d] (K : α → Option Ret) (x y z : α) : jn (α := α → Option Ret) K (fun J => if c then J x else if d then J y else J z) = K (if c then x else if d then y else z) := by
  unfold jn
  by_cases h : c
  · simp only [h, if_true]
  · by_cases h2 : d
    · simp only [h, h2, if_true, if_false]
    · simp only [h, h2, if_false]
theorem l_X3_share2 {M : Mem} (h : Rr M) {nr n na : Nat} (hnr : nr ≤ 40) (er : M.1 11 17 = nI nr) (en : M.1 11 25 = nI n) (hn : n ≤ 100) (ea : M.1 11 33 = nI na) (hna : na ≤ 60) (s w who : Int32) (al mn : Int64) (hmn : ¬ mn = 0) (K : Int64 → Int32 → Int32 → Mem → Option Ret) : ∀ (d a k : Nat), a + d = 8 → f_X3_shareOf_L79 s w who al mn (k + (d + 1)) (lfv al mn (p3 M n s w) a) (ahv (p3 M n s w) who a) (nI a) M K = K (lfv al mn (p3 M n s w) 8) (ahv (p3 M n s w) who 8) (nI 8) M
  | 0, a, k, hh => by
    have : a = 8 := by omega
    subst this
    rw [show k + (0 + 1) = k + 1 from rfl, f_X3_shareOf_L79, if_pos le8]
  | d + 1, a, k, hh => by
    have ih := l_X3_share2 h hnr er en hn ea hna s w who al mn hmn K d (a + 1) k (by omega)
    have e1 : lfv al mn (p3 M n s w) (a + 1) = lfv al mn (p3 M n s w) a - (al * (p3 M n s w a).toInt64) / mn := rfl
    have e2 : ahv (p3 M n s w) who (a + 1) = ahv (p3 M n s w) who a + (if p3 M n s w a ≤ 0 then 0 else if who ≤ nI a then 0 else 1) := rfl
    have e3 : p3 M n s w a = if (s >>> (nI a &&& 31)) &&& 1 = 1 then sW M n (nI a) w else 0 := rfl
    rw [e1, e2, e3] at ih
    rw [show k + (d + 1 + 1) = (k + (d + 1)) + 1 from rfl, f_X3_shareOf_L79, if_neg (n_le8 (by omega))]
    simp only [jn_ite3, bE_s, e_X10_isIn, e_X9_minutesIn h hnr er en hn ea hna, bI, nI_1, gNL_n hmn]
    simp only [jn]
    by_cases c : (s >>> (nI a &&& 31)) &&& 1 = 1
    · simp only [c, if_true, one_ne0, if_false] at ih ⊢; exact ih
    · simp only [c, if_true, if_false] at ih ⊢; exact ih
theorem le64 (z : Int32) : (lg_cmp z.toInt64 0 ≤ 0) ↔ z ≤ 0 := by
  rw [lg_cmp_le, Int64.le_iff_toInt_le, Int32.toInt_toInt64, i_le]
  exact Iff.rfl
theorem l_X11_pool2 {M : Mem} (h : Rr M) {nr n na : Nat} (hnr : nr ≤ 40) (er : M.1 11 17 = nI nr) (en : M.1 11 25 = nI n) (hn : n ≤ 100) (ea : M.1 11 33 = nI na) (hna : na ≤ 60) (s w : Int32) {x : Nat} (hx : x < 8) (al mn : Int64) (hmn : ¬ mn = 0) (K : Int64 → Int64 → Int32 → Int32 → Mem → Option Ret) : ∀ (d a k : Nat), a + d = 8 → f_X11_pool_L143 s w (nI x) al mn (k + (d + 1)) (lfv al mn (p3 M n s w) a) (owv al mn (p3 M n s w) x a) (ahv (p3 M n s w) (nI x) a) (nI a) M K = K (lfv al mn (p3 M n s w) 8) (owv al mn (p3 M n s w) x 8) (ahv (p3 M n s w) (nI x) 8) (nI 8) M
  | 0, a, k, hh => by
    have : a = 8 := by omega
    subst this
    rw [show k + (0 + 1) = k + 1 from rfl, f_X11_pool_L143, if_pos le8]
  | d + 1, a, k, hh => by
    have ih := l_X11_pool2 h hnr er en hn ea hna s w hx al mn hmn K d (a + 1) k (by omega)
    have e1 : lfv al mn (p3 M n s w) (a + 1) = lfv al mn (p3 M n s w) a - (al * (p3 M n s w a).toInt64) / mn := rfl
    have e2 : ahv (p3 M n s w) (nI x) (a + 1) = ahv (p3 M n s w) (nI x) a + (if nI x ≤ nI a then 0 else if lg_cmp (p3 M n s w a).toInt64 0 ≤ 0 then 0 else 1) := by
      show _ + (if p3 M n s w a ≤ 0 then 0 else if nI x ≤ nI a then 0 else 1) = _
      by_cases q1 : nI x ≤ nI a
      · simp only [q1, if_true, ite_self]
      · by_cases q2 : p3 M n s w a ≤ 0
        · simp only [q1, q2, le64, if_true, if_false]
        · simp only [q1, q2, le64, if_false]
    have e4 : owv al mn (p3 M n s w) x (a + 1) = if nI a = nI x then (al * (p3 M n s w a).toInt64) / mn else owv al mn (p3 M n s w) x a := by
      unfold owv
      by_cases q : a = x
      · subst q
        rw [if_pos (by omega), if_pos rfl]
      · rw [if_neg (fun q2 => q ((nI_eq (by omega) (by omega)).mp q2))]
        by_cases q3 : x < a
        · rw [if_pos q3, if_pos (by omega)]
        · rw [if_neg q3, if_neg (by omega)]
    have e3 : (p3 M n s w a).toInt64 = if (s >>> (nI a &&& 31)) &&& 1 = 1 then (sW M n (nI a) w).toInt64 else 0 := by
      show (if (s >>> (nI a &&& 31)) &&& 1 = 1 then sW M n (nI a) w else 0).toInt64 = _
      by_cases c : (s >>> (nI a &&& 31)) &&& 1 = 1
      · rw [if_pos c, if_pos c]
      · rw [if_neg c, if_neg c]; exact z64
    rw [e1, e2, e4, e3] at ih
    rw [show k + (d + 1 + 1) = (k + (d + 1)) + 1 from rfl, f_X11_pool_L143, if_neg (n_le8 (by omega))]
    simp only [jn_ite3, jn_ite, bE_s, e_X11_payOf h hnr er en hn ea hna, bI, nI_1, gNL_n hmn]
    simp only [jn]
    by_cases c : (s >>> (nI a &&& 31)) &&& 1 = 1
    · simp only [c, if_true] at ih ⊢; exact ih
    · simp only [c, if_false] at ih ⊢; exact ih
def sharev (M : Mem) (nr n na : Nat) (s w : Int32) (x : Nat) : Int32 := ((smL (p0 M nr n na s w) 8 * (sW M n (nI x) w).toInt64) / smL (p3l M n s w) 8).toInt32 + (if sW M n (nI x) w ≤ 0 then 0 else if smL (p0 M nr n na s w) 8 = smL (p0 M nr n na s w) 8 ∧ lfv (smL (p0 M nr n na s w) 8) (smL (p3l M n s w) 8) (p3 M n s w) 8 ≤ (ahv (p3 M n s w) (nI x) 8).toInt64 then 0 else 1)
theorem share_ne {M : Mem} (h : Rr M) {nr n na : Nat} (hnr : nr ≤ 40) (er : M.1 11 17 = nI nr) (en : M.1 11 25 = nI n) (hn : n ≤ 100) (ea : M.1 11 33 = nI na) (hna : na ≤ 60) (s w : Int32) {x : Nat} (hx : x < 8) (hb : (s >>> (nI x &&& 31)) &&& 1 = 1) (hmn : ¬ smL (p3l M n s w) 8 = 0) : ¬ sharev M nr n na s w x = -1 := by
  have hAL : ∃ g : Nat → Nat, ∀ k, alv M nr n na (nI k) w = nI (g k) ∧ g k ≤ smN (fun i => if M.1 83 i = nI k ∧ M.1 82 i = w then (erv M nr i).toNatClampNeg else 0) n + 480000 :=
    ⟨fun k => (alv_nat h hnr er en hn ea hna (nI k) w).choose, fun k => (alv_nat h hnr er en hn ea hna (nI k) w).choose_spec⟩
  obtain ⟨g, hg⟩ := hAL
  have hsp := split_le (wr := M.1 83) (wk := M.1 82) (w := w) (e := fun i => (erv M nr i).toNatClampNeg) (B := 12947040) (n := n) (fun i hi => (isN_nat (erv_N h hnr er en hn hi) (by decide)).2)
  have hsum : smN g 8 ≤ 1298544000 := by
    have t1 := smN_mono (f := g) (g := fun k => smN (fun i => if M.1 83 i = nI k ∧ M.1 82 i = w then (erv M nr i).toNatClampNeg else 0) n + 480000) (n := 8) (fun k _ => (hg k).2)
    have t2 := smN_add (fun k => smN (fun i => if M.1 83 i = nI k ∧ M.1 82 i = w then (erv M nr i).toNatClampNeg else 0) n) (fun _ => 480000) 8
    have t3 : smN (fun _ => 480000) 8 = 3840000 := by decide
    have t4 : n * 12947040 ≤ 100 * 12947040 := Nat.mul_le_mul_right _ hn
    omega
  have hone : ∀ k, k < 8 → g k ≤ 1298544000 := fun k hk => Nat.le_trans (smN_one hk) hsum
  have hp0 : smL (p0 M nr n na s w) 8 = lN (smN (fun k => if (s >>> (nI k &&& 31)) &&& 1 = 1 then g k else 0) 8) := by
    refine smL_nat (fun k hk => ?_)
    show (if (s >>> (nI k &&& 31)) &&& 1 = 1 then (alv M nr n na (nI k) w).toInt64 else 0) = _
    by_cases c : (s >>> (nI k &&& 31)) &&& 1 = 1
    · rw [if_pos c, if_pos c, (hg k).1, nI_l (by have := hone k hk; omega)]
    · rw [if_neg c, if_neg c]; rfl
  have hp0b : smN (fun k => if (s >>> (nI k &&& 31)) &&& 1 = 1 then g k else 0) 8 ≤ 1298544000 := by
    refine Nat.le_trans (smN_mono (fun k _ => ?_)) hsum
    by_cases c : (s >>> (nI k &&& 31)) &&& 1 = 1
    · rw [if_pos c]; exact Nat.le_refl _
    · rw [if_neg c]; exact Nat.zero_le _
  have hw : ∀ k : Nat, sW M n (nI k) w = nI (sW M n (nI k) w).toNatClampNeg ∧ (sW M n (nI k) w).toNatClampNeg ≤ 300000 := fun k => isN_nat (sW_N h hnr er en hn ea hna (nI k) w) (by decide)
  have hp3 : smL (p3l M n s w) 8 = lN (smN (fun k => if (s >>> (nI k &&& 31)) &&& 1 = 1 then (sW M n (nI k) w).toNatClampNeg else 0) 8) := by
    refine smL_nat (fun k hk => ?_)
    show (if (s >>> (nI k &&& 31)) &&& 1 = 1 then sW M n (nI k) w else 0).toInt64 = _
    by_cases c : (s >>> (nI k &&& 31)) &&& 1 = 1
    · rw [if_pos c, if_pos c, ← nI_l (by have := (hw k).2; omega), ← (hw k).1]
    · rw [if_neg c, if_neg c]; exact z64
  have hp3b : smN (fun k => if (s >>> (nI k &&& 31)) &&& 1 = 1 then (sW M n (nI k) w).toNatClampNeg else 0) 8 ≤ 2400000 := by
    refine smN_le (B := 300000) (fun k _ => ?_)
    by_cases c : (s >>> (nI k &&& 31)) &&& 1 = 1
    · rw [if_pos c]; exact (hw k).2
    · rw [if_neg c]; exact Nat.zero_le _
  have hp3x := smN_one (f := fun k => if (s >>> (nI k &&& 31)) &&& 1 = 1 then (sW M n (nI k) w).toNatClampNeg else 0) hx
  simp only [hb, if_true] at hp3x
  obtain ⟨hw1, hw2⟩ := hw x
  revert hp0 hp0b hp3 hp3b hp3x
  generalize smN (fun k => if (s >>> (nI k &&& 31)) &&& 1 = 1 then g k else 0) 8 = A
  generalize smN (fun k => if (s >>> (nI k &&& 31)) &&& 1 = 1 then (sW M n (nI k) w).toNatClampNeg else 0) 8 = B
  intro hp0 hp0b hp3 hp3b hp3x
  have hB : 0 < B := by
    rcases Nat.eq_zero_or_pos B with q | q
    · exact absurd (by rw [hp3, q]; rfl) hmn
    · exact q
  unfold sharev
  rw [hp0, hp3, hw1]
  revert hp3x hw2
  generalize (sW M n (nI x) w).toNatClampNeg = X
  intro hw2 hp3x
  have hAX : A * X ≤ 1298544000 * 300000 := Nat.mul_le_mul hp0b hw2
  have hq : A * X / B ≤ A := by
    refine Nat.div_le_of_le_mul ?_
    rw [Nat.mul_comm B A]
    exact Nat.mul_le_mul_left A hp3x
  rw [nI_l (by omega), lN_mul, pk_lDiv (by omega) hB (by omega), lN_i]
  have fin : ∀ c : Int32, c = 0 ∨ c = 1 → ¬ nI (A * X / B) + c = -1 := by
    intro c hc
    rcases hc with rfl | rfl
    · rw [i_a0]; exact nI_ne_m1 (by omega)
    · rw [nI_1]; exact nI_ne_m1 (by omega)
  apply fin
  by_cases c1 : nI X ≤ 0
  · rw [if_pos c1]; exact Or.inl rfl
  · rw [if_neg c1]
    split
    · exact Or.inl rfl
    · exact Or.inr rfl
theorem e_X3_shareOf {M : Mem} (h : Rr M) {nr n na : Nat} (hnr : nr ≤ 40) (er : M.1 11 17 = nI nr) (en : M.1 11 25 = nI n) (hn : n ≤ 100) (ea : M.1 11 33 = nI na) (hna : na ≤ 60) (s w : Int32) {x : Nat} (hx : x < 8) : f_X3_shareOf s w (nI x) M = some (if smL (p3l M n s w) 8 = 0 then -1 else sharev M nr n na s w x, M) := by
  obtain ⟨k, hk⟩ := FU_pos (d := 8) (by omega)
  unfold f_X3_shareOf
  rw [hk]
  refine (l_X3_share1 h hnr er en hn ea hna s w (nI x) _ 8 0 k (by omega)).trans ?_
  by_cases q : smL (p3l M n s w) 8 = 0
  · simp only [lg_cmp_eq, q, if_true]
  · simp only [lg_cmp_eq, q, if_false]
    refine (l_X3_share2 h hnr er en hn ea hna s w (nI x) _ _ q _ 8 0 k (by omega)).trans ?_
    simp only [e_X9_minutesIn h hnr er en hn ea hna, bE_s, jn_ite3, gNL_n q, lg_cmp_ge, sharev, true_and]
theorem e_X11_pool {M : Mem} (h : Rr M) {nr n na : Nat} (hnr : nr ≤ 40) (er : M.1 11 17 = nI nr) (en : M.1 11 25 = nI n) (hn : n ≤ 100) (ea : M.1 11 33 = nI na) (hna : na ≤ 60) (s w : Int32) {x : Nat} (hx : x < 8) (hb : (s >>> (nI x &&& 31)) &&& 1 = 1) (K2 : Mem → Option Ret) : f_X11_pool_L48 s w (nI x) FU (0 : Int64) (0 : Int64) (0 : Int32) M (fun w25 w26 w27 M28 => if (lg_cmp w26 (0 : Int64)) = 0 then K2 M28 else (f_X11_pool_L143 s w (nI x) w25 w26 FU w25 (0 : Int64) (0 : Int32) (0 : Int32) M28 (fun w40 w41 w42 w43 M44 => bE (f_X11_payOf (nI x) w (3 : Int32) M44) (fun r46 M45 => jn (α := Int32 → Option Ret) (fun (z48 : Int32) => some ((w41.toInt32) + z48, M45)) (fun J47 => if r46 ≤ 0 then (J47 (0 : Int32)) else (if (lg_cmp w40 (w42.toInt64)) ≤ 0 then (J47 (0 : Int32)) else (J47 (1 : Int32)))))))) = if smL (p3l M n s w) 8 = 0 then K2 M else some (sharev M nr n na s w x, M) := by
  obtain ⟨k, hk⟩ := FU_pos (d := 8) (by omega)
  rw [hk]
  refine (l_X11_pool1 h hnr er en hn ea hna s w (nI x) _ 8 0 k (by omega)).trans ?_
  by_cases q : smL (p3l M n s w) 8 = 0
  · simp only [lg_cmp_eq, q, if_true]
  · simp only [lg_cmp_eq, q, if_false]
    refine (l_X11_pool2 h hnr er en hn ea hna s w hx _ _ q _ 8 0 k (by omega)).trans ?_
    have e0 : owv (smL (p0 M nr n na s w) 8) (smL (p3l M n s w) 8) (p3 M n s w) x 8 = (smL (p0 M nr n na s w) 8 * (sW M n (nI x) w).toInt64) / smL (p3l M n s w) 8 := by
      unfold owv
      rw [if_pos hx, show p3 M n s w x = sW M n (nI x) w from if_pos hb]
    simp only [e_X11_payOf h hnr er en hn ea hna, bE_s, jn_ite3, lg_cmp_le, e0, sharev, true_and]
    rfl
theorem st_pool {M : Mem} (hI : Inv M) (v1 v2 v3 : Int32) : ∃ (r : Int32) (M1 M2 : Mem), f_X10_pool v1 v2 v3 M = some (r, M1) ∧ f_X11_pool v1 v2 v3 M1 = some (r, M2) ∧ Inv M2 := by
  obtain ⟨nr, hnr, er, -⟩ := hI.r
  obtain ⟨n, hn, en, -⟩ := hI.w
  obtain ⟨na, hna, ea, -⟩ := hI.a
  by_cases h1 : wi v1 1 255 = 0
  · exact ⟨fdv 1, fdC M 1, fdM (fdC M 1) 1, by simp only [f_X10_pool, e_X10_isWithin, e_X11_isIn, e_X1_isKind, e_X10_isRater, e_X10_isPace, e_X10_isWeek, e_X10_isWorker, e_X10_isCause, e_X11_isPace, e_X11_isWeek, e_X11_isWorker, e_X11_isElement, e_X11_isJob, bE_s, bI, bM, jn, one_ne0, e_fdC1, e_fdM1, e_fdC2, e_fdM2, e_fdC3, e_fdM3, e_fdC4, e_fdM4, e_fdC5, e_fdM5, h1, if_true, if_false], by simp only [f_X11_pool, e_X10_isWithin, e_X11_isIn, e_X1_isKind, e_X10_isRater, e_X10_isPace, e_X10_isWeek, e_X10_isWorker, e_X10_isCause, e_X11_isPace, e_X11_isWeek, e_X11_isWorker, e_X11_isElement, e_X11_isJob, bE_s, bI, bM, jn, one_ne0, e_fdC1, e_fdM1, e_fdC2, e_fdM2, e_fdC3, e_fdM3, e_fdC4, e_fdM4, e_fdC5, e_fdM5, h1, fdC_at (show (11 : Nat) ≠ 12 by decide), if_true, if_false], inv_fd hI 1⟩
  by_cases h2 : wi v2 0 500 = 0
  · exact ⟨fdv 1, fdC M 1, fdM (fdC M 1) 1, by simp only [f_X10_pool, e_X10_isWithin, e_X11_isIn, e_X1_isKind, e_X10_isRater, e_X10_isPace, e_X10_isWeek, e_X10_isWorker, e_X10_isCause, e_X11_isPace, e_X11_isWeek, e_X11_isWorker, e_X11_isElement, e_X11_isJob, bE_s, bI, bM, jn, one_ne0, e_fdC1, e_fdM1, e_fdC2, e_fdM2, e_fdC3, e_fdM3, e_fdC4, e_fdM4, e_fdC5, e_fdM5, h1, h2, if_true, if_false], by simp only [f_X11_pool, e_X10_isWithin, e_X11_isIn, e_X1_isKind, e_X10_isRater, e_X10_isPace, e_X10_isWeek, e_X10_isWorker, e_X10_isCause, e_X11_isPace, e_X11_isWeek, e_X11_isWorker, e_X11_isElement, e_X11_isJob, bE_s, bI, bM, jn, one_ne0, e_fdC1, e_fdM1, e_fdC2, e_fdM2, e_fdC3, e_fdM3, e_fdC4, e_fdM4, e_fdC5, e_fdM5, h1, h2, fdC_at (show (11 : Nat) ≠ 12 by decide), if_true, if_false], inv_fd hI 1⟩
  by_cases h3 : wi v3 0 7 = 0
  · exact ⟨fdv 1, fdC M 1, fdM (fdC M 1) 1, by simp only [f_X10_pool, e_X10_isWithin, e_X11_isIn, e_X1_isKind, e_X10_isRater, e_X10_isPace, e_X10_isWeek, e_X10_isWorker, e_X10_isCause, e_X11_isPace, e_X11_isWeek, e_X11_isWorker, e_X11_isElement, e_X11_isJob, bE_s, bI, bM, jn, one_ne0, e_fdC1, e_fdM1, e_fdC2, e_fdM2, e_fdC3, e_fdM3, e_fdC4, e_fdM4, e_fdC5, e_fdM5, h1, h2, h3, if_true, if_false], by simp only [f_X11_pool, e_X10_isWithin, e_X11_isIn, e_X1_isKind, e_X10_isRater, e_X10_isPace, e_X10_isWeek, e_X10_isWorker, e_X10_isCause, e_X11_isPace, e_X11_isWeek, e_X11_isWorker, e_X11_isElement, e_X11_isJob, bE_s, bI, bM, jn, one_ne0, e_fdC1, e_fdM1, e_fdC2, e_fdM2, e_fdC3, e_fdM3, e_fdC4, e_fdM4, e_fdC5, e_fdM5, h1, h2, h3, fdC_at (show (11 : Nat) ≠ 12 by decide), if_true, if_false], inv_fd hI 1⟩
  by_cases h4 : (v1 >>> (v3 &&& 31)) &&& 1 = 1
  case neg =>
    have h4' := (and1 _).mpr h4
    exact ⟨fdv 1, fdC M 1, fdM (fdC M 1) 1, by simp only [f_X10_pool, e_X10_isWithin, e_X11_isIn, e_X1_isKind, e_X10_isRater, e_X10_isPace, e_X10_isWeek, e_X10_isWorker, e_X10_isCause, e_X11_isPace, e_X11_isWeek, e_X11_isWorker, e_X11_isElement, e_X11_isJob, bE_s, bI, bM, jn, one_ne0, e_fdC1, e_fdM1, e_fdC2, e_fdM2, e_fdC3, e_fdM3, e_fdC4, e_fdM4, e_fdC5, e_fdM5, h1, h2, h3, e_X10_isIn, h4, if_true, if_false], by simp only [f_X11_pool, e_X10_isWithin, e_X11_isIn, e_X1_isKind, e_X10_isRater, e_X10_isPace, e_X10_isWeek, e_X10_isWorker, e_X10_isCause, e_X11_isPace, e_X11_isWeek, e_X11_isWorker, e_X11_isElement, e_X11_isJob, bE_s, bI, bM, jn, one_ne0, e_fdC1, e_fdM1, e_fdC2, e_fdM2, e_fdC3, e_fdM3, e_fdC4, e_fdM4, e_fdC5, e_fdM5, h1, h2, h3, h4', fdC_at (show (11 : Nat) ≠ 12 by decide), if_true, if_false], inv_fd hI 1⟩
  have h4' : ¬ (v1 >>> (v3 &&& 31)) &&& 1 = 0 := fun q => (and1 _).mp q h4
  obtain ⟨x, -, hx, rfl⟩ := wi_nat (lo := 0) (hi := 7) (by decide) (by decide) h3
  by_cases h5 : smL (p3l M n v1 v2) 8 = 0
  · refine ⟨fdv 2, fdC M 2, fdM (fdC M 2) 2, ?_, ?_, inv_fd hI 2⟩
    · simp only [f_X10_pool, f_X10_orNone, e_X10_isWithin, e_X11_isIn, e_X1_isKind, e_X10_isRater, e_X10_isPace, e_X10_isWeek, e_X10_isWorker, e_X10_isCause, e_X11_isPace, e_X11_isWeek, e_X11_isWorker, e_X11_isElement, e_X11_isJob, bE_s, bI, bM, jn, one_ne0, e_fdC1, e_fdM1, e_fdC2, e_fdM2, e_fdC3, e_fdM3, e_fdC4, e_fdM4, e_fdC5, e_fdM5, e_X10_isIn, h1, h2, h3, h4, if_true, if_false, e_X3_shareOf hI.rr hnr er en hn ea hna v1 v2 (show x < 8 by omega), h5]
    · simp only [f_X11_pool, e_X10_isWithin, e_X11_isIn, e_X1_isKind, e_X10_isRater, e_X10_isPace, e_X10_isWeek, e_X10_isWorker, e_X10_isCause, e_X11_isPace, e_X11_isWeek, e_X11_isWorker, e_X11_isElement, e_X11_isJob, bE_s, bI, bM, jn, one_ne0, e_fdC1, e_fdM1, e_fdC2, e_fdM2, e_fdC3, e_fdM3, e_fdC4, e_fdM4, e_fdC5, e_fdM5, h1, h2, h3, h4', if_false]
      have hR : Rr (fdC M 2) := hI.rr
      refine (e_X11_pool hR hnr er en hn ea hna v1 v2 (show x < 8 by omega) h4 _).trans ?_
      rw [if_pos (show smL (p3l (fdC M 2) n v1 v2) 8 = 0 from h5)]
  · refine ⟨sharev M nr n na v1 v2 x, M, M, ?_, ?_, hI⟩
    · simp only [f_X10_pool, f_X10_orNone, e_X10_isWithin, e_X11_isIn, e_X1_isKind, e_X10_isRater, e_X10_isPace, e_X10_isWeek, e_X10_isWorker, e_X10_isCause, e_X11_isPace, e_X11_isWeek, e_X11_isWorker, e_X11_isElement, e_X11_isJob, bE_s, bI, bM, jn, one_ne0, e_fdC1, e_fdM1, e_fdC2, e_fdM2, e_fdC3, e_fdM3, e_fdC4, e_fdM4, e_fdC5, e_fdM5, e_X10_isIn, h1, h2, h3, h4, if_true, if_false, e_X3_shareOf hI.rr hnr er en hn ea hna v1 v2 (show x < 8 by omega), h5, share_ne hI.rr hnr er en hn ea hna v1 v2 (show x < 8 by omega) h4 h5]
    · simp only [f_X11_pool, e_X10_isWithin, e_X11_isIn, e_X1_isKind, e_X10_isRater, e_X10_isPace, e_X10_isWeek, e_X10_isWorker, e_X10_isCause, e_X11_isPace, e_X11_isWeek, e_X11_isWorker, e_X11_isElement, e_X11_isJob, bE_s, bI, bM, jn, one_ne0, e_fdC1, e_fdM1, e_fdC2, e_fdM2, e_fdC3, e_fdM3, e_fdC4, e_fdM4, e_fdC5, e_fdM5, h1, h2, h3, h4', if_false]
      refine (e_X11_pool hI.rr hnr er en hn ea hna v1 v2 (show x < 8 by omega) h4 _).trans ?_
      rw [if_neg h5]
