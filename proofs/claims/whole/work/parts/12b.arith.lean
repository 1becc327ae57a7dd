/-! ARITHMETIC OF SMALL NUMBERS: the reference's forms are the class's -/
theorem ti_bm {z : Int} (h1 : -2147483648 ≤ z) (h2 : z < 2147483648) : z.bmod (2 ^ 32) = z := by
  rw [Int.bmod_eq_of_le] <;> omega
theorem ti_add {a b : Int32} (h1 : -2147483648 ≤ a.toInt + b.toInt) (h2 : a.toInt + b.toInt < 2147483648) : (a + b).toInt = a.toInt + b.toInt := by rw [Int32.toInt_add, ti_bm h1 h2]
theorem ti_sub {a b : Int32} (h1 : -2147483648 ≤ a.toInt - b.toInt) (h2 : a.toInt - b.toInt < 2147483648) : (a - b).toInt = a.toInt - b.toInt := by rw [Int32.toInt_sub, ti_bm h1 h2]
theorem ti_mul {a b : Int32} (h1 : -2147483648 ≤ a.toInt * b.toInt) (h2 : a.toInt * b.toInt < 2147483648) : (a * b).toInt = a.toInt * b.toInt := by rw [Int32.toInt_mul, ti_bm h1 h2]
theorem ti_1 : (1 : Int32).toInt = 1 := by decide
theorem ti_0 : (0 : Int32).toInt = 0 := by decide
theorem ti_inj {a b : Int32} (h : a.toInt = b.toInt) : a = b := Int32.toInt_inj.mp h
def ok4 (c : Int32) : Prop := c = 0 ∨ c = 1 ∨ c = 2 ∨ c = 3
theorem ok4_nI {k : Nat} (h : k < 4) : ok4 (nI k) := by
  rcases (show k = 0 ∨ k = 1 ∨ k = 2 ∨ k = 3 by omega) with rfl | rfl | rfl | rfl
  · exact Or.inl rfl
  · exact Or.inr (Or.inl rfl)
  · exact Or.inr (Or.inr (Or.inl rfl))
  · exact Or.inr (Or.inr (Or.inr rfl))
/-- the numbers of n points are in their ranges -/
def bd_ok (n : Nat) (P : Nat → Nat → Int32) : Prop := ∀ i, i < n → (0 ≤ (P i 0).toInt ∧ (P i 0).toInt ≤ 59) ∧ (0 ≤ (P i 1).toInt ∧ (P i 1).toInt ≤ 39) ∧ (1 ≤ (P i 2).toInt ∧ (P i 2).toInt ≤ 20) ∧ (1 ≤ (P i 3).toInt ∧ (P i 3).toInt ≤ 9) ∧ (1 ≤ (P i 4).toInt ∧ (P i 4).toInt ≤ 99) ∧ (P i 5 = -1 ∨ ok4 (P i 5))
theorem gL_rng {n : Nat} {P : Nat → Nat → Int32} (h : bd_ok n P) {i : Nat} (hi : i < n) (c : Int32) : -20 ≤ (gL P i c).toInt ∧ (gL P i c).toInt ≤ 60 := by
  obtain ⟨⟨h1, h2⟩, -, ⟨h3, h4⟩, -⟩ := h i hi
  unfold gL
  split
  · rw [ti_add (by rw [ti_1]; omega) (by rw [ti_1]; omega), ti_1]; omega
  · rw [ti_sub (by omega) (by omega)]; omega
theorem gT_rng {n : Nat} {P : Nat → Nat → Int32} (h : bd_ok n P) {i : Nat} (hi : i < n) (c : Int32) : -9 ≤ (gT P i c).toInt ∧ (gT P i c).toInt ≤ 40 := by
  obtain ⟨-, ⟨h1, h2⟩, -, ⟨h3, h4⟩, -⟩ := h i hi
  unfold gT
  split
  · rw [ti_add (by rw [ti_1]; omega) (by rw [ti_1]; omega), ti_1]; omega
  · rw [ti_sub (by omega) (by omega)]; omega
/-- a square lies on a label: the reference's words -/
def mHs (P : Nat → Nat → Int32) (i : Nat) (c x y : Int32) : Bool := decide (gL P i c ≤ x ∧ x ≤ gL P i c + P i 2 - 1 ∧ gT P i c ≤ y ∧ y ≤ gT P i c + P i 3 - 1)
theorem ti_end {a b : Int32} (h1 : -1000 ≤ a.toInt) (h2 : a.toInt ≤ 1000) (h3 : -1000 ≤ b.toInt) (h4 : b.toInt ≤ 1000) : (a + b - 1).toInt = a.toInt + b.toInt - 1 ∧ (a + b).toInt = a.toInt + b.toInt := by
  have e : (a + b).toInt = a.toInt + b.toInt := ti_add (by omega) (by omega)
  refine ⟨?_, e⟩
  rw [ti_sub (by rw [e, ti_1]; omega) (by rw [e, ti_1]; omega), e, ti_1]
theorem ti_lt_end {a b x : Int32} (h1 : -1000 ≤ a.toInt) (h2 : a.toInt ≤ 1000) (h3 : -1000 ≤ b.toInt) (h4 : b.toInt ≤ 1000) : x < a + b ↔ x ≤ a + b - 1 := by
  obtain ⟨e1, e2⟩ := ti_end h1 h2 h3 h4
  rw [Int32.lt_iff_toInt_lt, Int32.le_iff_toInt_le, e1, e2]
  omega
theorem mHs_cov {n : Nat} {P : Nat → Nat → Int32} (h : bd_ok n P) {i : Nat} (hi : i < n) (c x y : Int32) : mHs P i c x y = gCov P i c x y := by
  have h1 := gL_rng h hi c
  have h2 := gT_rng h hi c
  obtain ⟨-, -, ⟨h3, h4⟩, ⟨h5, h6⟩, -⟩ := h i hi
  unfold mHs gCov
  rw [decide_eq_decide, ti_lt_end (by omega) (by omega) (by omega) (by omega), ti_lt_end (by omega) (by omega) (by omega) (by omega)]
theorem gHit_mHs (P : Nat → Nat → Int32) (i : Nat) (c : Int32) (j : Nat) : gHit P i c j = mHs P i c (P j 0) (P j 1) := rfl
theorem ti_iMax (a b : Int32) : (iMax a b).toInt = max a.toInt b.toInt := by
  unfold iMax
  split
  · rename_i h; rw [Int32.lt_iff_toInt_lt] at h; omega
  · rename_i h; rw [Int32.lt_iff_toInt_lt] at h; omega
theorem ti_iMin (a b : Int32) : (iMin a b).toInt = min a.toInt b.toInt := by
  unfold iMin
  split
  · rename_i h; rw [Int32.lt_iff_toInt_lt] at h; omega
  · rename_i h; rw [Int32.lt_iff_toInt_lt] at h; omega
theorem iMin_alt (a b : Int32) : iMin a b = if a < b then a else b := by
  apply ti_inj
  rw [ti_iMin]
  split
  · rename_i h; rw [Int32.lt_iff_toInt_lt] at h; omega
  · rename_i h; rw [Int32.lt_iff_toInt_lt] at h; omega
theorem iMax_alt (a b : Int32) : iMax a b = if b < a then a else b := by
  apply ti_inj
  rw [ti_iMax]
  split
  · rename_i h; rw [Int32.lt_iff_toInt_lt] at h; omega
  · rename_i h; rw [Int32.lt_iff_toInt_lt] at h; omega
def mAc (a la b lb : Int32) : Int32 := iMin (a + la - 1) (b + lb - 1) - iMax a b + 1
def mSh (P : Nat → Nat → Int32) (i : Nat) (c : Int32) (j : Nat) (d : Int32) : Int32 := if 0 < mAc (gL P i c) (P i 2) (gL P j d) (P j 2) ∧ 0 < mAc (gT P i c) (P i 3) (gT P j d) (P j 3) then mAc (gL P i c) (P i 2) (gL P j d) (P j 2) * mAc (gT P i c) (P i 3) (gT P j d) (P j 3) else 0
theorem mAc_ti {a la b lb : Int32} (h1 : -100 ≤ a.toInt ∧ a.toInt ≤ 100) (h2 : 0 ≤ la.toInt ∧ la.toInt ≤ 100) (h3 : -100 ≤ b.toInt ∧ b.toInt ≤ 100) (h4 : 0 ≤ lb.toInt ∧ lb.toInt ≤ 100) :
    (mAc a la b lb).toInt = min (a.toInt + la.toInt) (b.toInt + lb.toInt) - max a.toInt b.toInt ∧ (gLen a la b lb).toInt = max 0 (min (a.toInt + la.toInt) (b.toInt + lb.toInt) - max a.toInt b.toInt) := by
  have e1 := ti_end (a := a) (b := la) (by omega) (by omega) (by omega) (by omega)
  have e2 := ti_end (a := b) (b := lb) (by omega) (by omega) (by omega) (by omega)
  have m1 : (iMin (a + la - 1) (b + lb - 1)).toInt = min (a.toInt + la.toInt) (b.toInt + lb.toInt) - 1 := by rw [ti_iMin, e1.1, e2.1]; omega
  have m2 : (iMin (a + la) (b + lb)).toInt = min (a.toInt + la.toInt) (b.toInt + lb.toInt) := by rw [ti_iMin, e1.2, e2.2]
  have m3 : (iMax a b).toInt = max a.toInt b.toInt := ti_iMax a b
  constructor
  · unfold mAc
    have s1 : (iMin (a + la - 1) (b + lb - 1) - iMax a b).toInt = min (a.toInt + la.toInt) (b.toInt + lb.toInt) - 1 - max a.toInt b.toInt := by rw [ti_sub (by rw [m1, m3]; omega) (by rw [m1, m3]; omega), m1, m3]
    rw [ti_add (by rw [s1, ti_1]; omega) (by rw [s1, ti_1]; omega), s1, ti_1]; omega
  · unfold gLen
    rw [ti_iMax, ti_0, ti_sub (by rw [m2, m3]; omega) (by rw [m2, m3]; omega), m2, m3]
theorem mSh_eq {n : Nat} {P : Nat → Nat → Int32} (h : bd_ok n P) {i : Nat} (hi : i < n) (c : Int32) {j : Nat} (hj : j < n) (d : Int32) : mSh P i c j d = gSh P i c j d := by
  have h1 := gL_rng h hi c
  have h2 := gT_rng h hi c
  have h3 := gL_rng h hj d
  have h4 := gT_rng h hj d
  obtain ⟨-, -, w1, v1, -⟩ := h i hi
  obtain ⟨-, -, w2, v2, -⟩ := h j hj
  have a1 := mAc_ti (a := gL P i c) (la := P i 2) (b := gL P j d) (lb := P j 2) (by omega) (by omega) (by omega) (by omega)
  have a2 := mAc_ti (a := gT P i c) (la := P i 3) (b := gT P j d) (lb := P j 3) (by omega) (by omega) (by omega) (by omega)
  unfold mSh gSh
  split
  · rename_i q
    rw [Int32.lt_iff_toInt_lt, Int32.lt_iff_toInt_lt, ti_0] at q
    rw [ti_inj (a := mAc (gL P i c) (P i 2) (gL P j d) (P j 2)) (b := gLen (gL P i c) (P i 2) (gL P j d) (P j 2)) (by omega), ti_inj (a := mAc (gT P i c) (P i 3) (gT P j d) (P j 3)) (b := gLen (gT P i c) (P i 3) (gT P j d) (P j 3)) (by omega)]
  · rename_i q
    rw [Int32.lt_iff_toInt_lt, Int32.lt_iff_toInt_lt, ti_0] at q
    rcases Int.lt_or_le 0 (mAc (gL P i c) (P i 2) (gL P j d) (P j 2)).toInt with r | r
    · rw [ti_inj (a := gLen (gT P i c) (P i 3) (gT P j d) (P j 3)) (b := 0) (by rw [ti_0]; omega)]
      exact (Int32.mul_zero).symm
    · rw [ti_inj (a := gLen (gL P i c) (P i 2) (gL P j d) (P j 2)) (b := 0) (by rw [ti_0]; omega)]
      exact (Int32.zero_mul).symm
theorem gSh_rng {n : Nat} {P : Nat → Nat → Int32} (h : bd_ok n P) {i : Nat} (hi : i < n) (c : Int32) {j : Nat} (hj : j < n) (d : Int32) : 0 ≤ (gSh P i c j d).toInt ∧ (gSh P i c j d).toInt ≤ 180 := by
  have h1 := gL_rng h hi c
  have h2 := gT_rng h hi c
  have h3 := gL_rng h hj d
  have h4 := gT_rng h hj d
  obtain ⟨-, -, w1, v1, -⟩ := h i hi
  obtain ⟨-, -, w2, v2, -⟩ := h j hj
  have a1 := (mAc_ti (a := gL P i c) (la := P i 2) (b := gL P j d) (lb := P j 2) (by omega) (by omega) (by omega) (by omega)).2
  have a2 := (mAc_ti (a := gT P i c) (la := P i 3) (b := gT P j d) (lb := P j 3) (by omega) (by omega) (by omega) (by omega)).2
  have b1 : 0 ≤ (gLen (gL P i c) (P i 2) (gL P j d) (P j 2)).toInt ∧ (gLen (gL P i c) (P i 2) (gL P j d) (P j 2)).toInt ≤ 20 := by omega
  have b2 : 0 ≤ (gLen (gT P i c) (P i 3) (gT P j d) (P j 3)).toInt ∧ (gLen (gT P i c) (P i 3) (gT P j d) (P j 3)).toInt ≤ 9 := by omega
  have p1 : 0 ≤ (gLen (gL P i c) (P i 2) (gL P j d) (P j 2)).toInt * (gLen (gT P i c) (P i 3) (gT P j d) (P j 3)).toInt := Int.mul_nonneg b1.1 b2.1
  have p2 : (gLen (gL P i c) (P i 2) (gL P j d) (P j 2)).toInt * (gLen (gT P i c) (P i 3) (gT P j d) (P j 3)).toInt ≤ 20 * 9 := Int.mul_le_mul b1.2 b2.2 b2.1 (by omega)
  unfold gSh
  rw [ti_mul (by omega) (by omega)]
  omega
theorem gSh_pos {n : Nat} {P : Nat → Nat → Int32} (h : bd_ok n P) {i : Nat} (hi : i < n) (c : Int32) {j : Nat} (hj : j < n) (d : Int32) : gSh P i c j d = 0 ↔ ¬ 0 < gSh P i c j d := by
  have := gSh_rng h hi c hj d
  rw [Int32.lt_iff_toInt_lt, ti_0]
  constructor
  · intro q; rw [q, ti_0]; omega
  · intro q; apply ti_inj; rw [ti_0]; omega
/-- a number is a point's -/
def gHas (n : Nat) (x : Int32) : Bool := decide (0 ≤ x ∧ x < nI n)
theorem gHas_iff {n : Nat} (hn : n ≤ 8) {x : Int32} : gHas n x = true ↔ ∃ i, i < n ∧ x = nI i := by
  unfold gHas
  rw [decide_eq_true_iff]
  constructor
  · rintro ⟨h1, h2⟩
    obtain ⟨j, hj, rfl⟩ := nI_of (x := x) (Int32.not_lt.mpr h1)
    exact ⟨j, (nI_ltI hj (by omega)).mp h2, rfl⟩
  · rintro ⟨i, hi, rfl⟩
    exact ⟨nI_pos' (by omega), nI_lt hi (by omega)⟩
theorem gHas_alt {n : Nat} (hn : n ≤ 8) (x : Int32) : gHas n x = decide (0 ≤ x ∧ x ≤ nI n - 1) := by
  unfold gHas
  have e : (nI n).toInt = n := nI_toInt (by omega)
  have e2 : (nI n - 1).toInt = (n : Int) - 1 := by rw [ti_sub (by rw [e, ti_1]; omega) (by rw [e, ti_1]; omega), e, ti_1]
  rw [decide_eq_decide]
  have q1 : x < nI n ↔ x.toInt < n := by rw [Int32.lt_iff_toInt_lt, e]
  have q2 : x ≤ nI n - 1 ↔ x.toInt ≤ (n : Int) - 1 := by rw [Int32.le_iff_toInt_le, e2]
  rw [q1, q2]
  constructor <;> rintro ⟨h1, h2⟩ <;> exact ⟨h1, by omega⟩
/-- the leader: the reference's words -/
theorem gLL_alt {n : Nat} {P : Nat → Nat → Int32} (h : bd_ok n P) {i : Nat} (hi : i < n) {j : Nat} (hj : j < n) : gLL P i j = (gSt P j && decide (gT P j (P j 5) ≤ P i 1 ∧ P i 1 ≤ gT P j (P j 5) + P j 3 - 1 ∧ P i 0 < gL P j (P j 5) + P j 2 - 1)) := by
  unfold gLL
  have h1 := gL_rng h hj (P j 5)
  have h2 := gT_rng h hj (P j 5)
  obtain ⟨x1, -, -⟩ := h i hi
  obtain ⟨-, -, w2, v2, -⟩ := h j hj
  have e1 := ti_end (a := gL P j (P j 5)) (b := P j 2) (by omega) (by omega) (by omega) (by omega)
  have e2 : (P i 0 + 1).toInt = (P i 0).toInt + 1 := by rw [ti_add (by rw [ti_1]; omega) (by rw [ti_1]; omega), ti_1]
  have q1 : P i 0 + 1 < gL P j (P j 5) + P j 2 ↔ P i 0 < gL P j (P j 5) + P j 2 - 1 := by
    rw [Int32.lt_iff_toInt_lt, Int32.lt_iff_toInt_lt, e1.1, e1.2, e2]; omega
  have q2 : P i 1 < gT P j (P j 5) + P j 3 ↔ P i 1 ≤ gT P j (P j 5) + P j 3 - 1 := ti_lt_end (by omega) (by omega) (by omega) (by omega)
  congr 1
  rw [decide_eq_decide, q1, q2]
  constructor
  · rintro ⟨q1, q2, q3⟩; exact ⟨q2, q3, q1⟩
  · rintro ⟨q2, q3, q1⟩; exact ⟨q1, q2, q3⟩
