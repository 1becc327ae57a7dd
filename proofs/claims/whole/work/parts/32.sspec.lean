/-! THE REFERENCE'S SEARCH (mechanical words): t j the choice for the point j, 4 = dropped -/
def mWoF (m : Nat) (P : Nat → Nat → Int32) (t : Nat → Nat) (i : Nat) (a : Int32) : Int32 := if m = 0 then (if t i = 4 then a else a + P i 4) else if ¬ P i 5 = -1 ∧ ¬ nI (t i) = P i 5 then a + 1 else a
def mWo (m : Nat) (P : Nat → Nat → Int32) (t : Nat → Nat) (q : Nat) : Int32 := gF q (mWoF m P t) 0 0
def mWt (n : Nat) (P : Nat → Nat → Int32) (q : Nat) : Int32 := gF n (gAWF P) q 0
def mBt (x : Int32) (k : Nat) : Bool := decide ((x >>> (nI k &&& 31)) &&& 1 = 1)
def mFitB (P : Nat → Nat → Int32) (t : Nat → Nat) (i j : Nat) : Bool := decide (¬ t j = 4) && decide (¬ gSh P i (nI (t i)) j (nI (t j)) = 0)
def mFit (al : Nat → Int32) (P : Nat → Nat → Int32) (t : Nat → Nat) (i : Nat) : Bool := mBt (al i) (t i) && (decide (t i = 4) || !gE i (mFitB P t i) 0)
def mCan (m n : Nat) (P : Nat → Nat → Int32) (t : Nat → Nat) (bs : Int32) (q : Nat) : Bool := if m = 2 ∨ bs = -1 then true else if m = 0 then decide (bs < mWo m P t q + mWt n P q) else decide (mWo m P t q < bs)
def plS (n : Nat) (t : Nat → Nat) (pl : Nat → Int32) : Nat → Int32 := fun j => if j < n then nI (t j) else pl j
def mLk (m n : Nat) (P : Nat → Nat → Int32) (t : Nat → Nat) (z : Int32 × (Nat → Int32)) : Int32 × (Nat → Int32) :=
  if m = 2 then (z.1 + 1, z.2) else if mCan m n P t z.1 n then (mWo m P t n, plS n t z.2) else z
theorem plS_step {k n : Nat} {t : Nat → Nat} {tl pl p1 p2 : Nat → Int32} (ht : ∀ j, j < n → tl j = nI (t j)) (hk : k < n) (h : p1 = plS k t pl) (e : p2 = upd p1 k (nI (t k))) : p2 = plS (k + 1) t pl := by
  subst h
  rw [e]
  funext j
  unfold upd plS
  by_cases hj : j = k
  · rw [if_pos hj, if_pos (by omega), hj]
  · rw [if_neg hj]
    by_cases hq : j < k
    · rw [if_pos hq, if_pos (by omega)]
    · rw [if_neg hq, if_neg (by omega)]
theorem plS_0 {t : Nat → Nat} {pl : Nat → Int32} : pl = plS 0 t pl := by
  funext j
  unfold plS
  rw [if_neg (Nat.not_lt_zero j)]
theorem ok4_t {x : Nat} (h : x ≤ 4) (h2 : ¬ x = 4) : ok4 (nI x) := ok4_nI (by omega)
theorem mw_lf (x : Nat) : (nI x = 0) = (nI x = nI 0) := rfl
theorem mFit_end {al : Nat → Int32} {P : Nat → Nat → Int32} {t : Nat → Nat} {i j : Nat} {b : Bool} (h : (t i = 4 → b = mBt (al i) (t i)) ∧ (¬ t i = 4 → (mBt (al i) (t i) && !gE i (mFitB P t i) 0) = (b && !gE i (mFitB P t i) j))) (he : t i = 4 ∨ i ≤ j) : b = mFit al P t i := by
  unfold mFit
  by_cases h4 : t i = 4
  · rw [h.1 h4]
    simp [h4]
  · have h2 := h.2 h4
    rcases he with he | he
    · exact absurd he h4
    · rw [gE_end he] at h2
      simp [h4]
      simp at h2
      rw [← h2]
