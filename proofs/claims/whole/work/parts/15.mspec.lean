/-! THE REFERENCE'S BOARD, in the same words -/
def mOf (P : Nat → Nat → Int32) (i k : Nat) : Int32 := if k = 5 then P i 5 + 1 else P i k
/-- the reference's board of n points stands in a world -/
def md_in (w : va_W) (tys : List (ClassId × FieldType)) (om n : Nat) (P : Nat → Nat → Int32) : Prop :=
  ∃ (qm qs t0 os : Nat) (cI : ClassId) (S : Nat → Int32) (fs : List Value), w[qm]? = some (om, .inr (5, fs)) ∧ fs[1]? = some (.ref os) ∧ w[qs]? = some (os, .inl (cI, 49, .inl S)) ∧ tys[t0]? = some (cI, .int) ∧ n ≤ 8 ∧ S 0 = nI n ∧ (∀ i, i < n → ∀ k, k < 6 → S (1 + 6 * i + k) = mOf P i k) ∧ bd_ok n P
def mIn (v a b : Int32) : Bool := decide (a ≤ v ∧ v ≤ b)
theorem mOf_5 (P : Nat → Nat → Int32) (i : Nat) : mOf P i 5 - 1 = P i 5 := by
  show P i 5 + 1 - 1 = P i 5
  exact Int32.add_sub_cancel _ _
theorem ok4_low {c : Int32} (h : ok4 c) : c < 2 ↔ (c = 0 ∨ c = 1) := by
  rcases h with rfl | rfl | rfl | rfl <;> decide
def mOnes (m : Int32) : Int32 := (m &&& 1) + ((m >>> ((1 : Int32) &&& 31)) &&& 1) + ((m >>> ((2 : Int32) &&& 31)) &&& 1) + ((m >>> ((3 : Int32) &&& 31)) &&& 1)
def mOMF (n : Nat) (P : Nat → Nat → Int32) (b : Int32) (i : Nat) (a : Int32) : Int32 := if nI i = b then a else a + mOnes (gMk n P i)
def mOM (n : Nat) (P : Nat → Nat → Int32) (b : Int32) : Int32 := gF n (mOMF n P b) 0 0
def mRef (n : Nat) (P : Nat → Nat → Int32) (x y wd hg wt : Int32) : Int32 :=
  if mIn x 0 59 && (mIn y 0 39 && (mIn wd 1 20 && (mIn hg 1 9 && mIn wt 1 99))) then (if n = 8 ∨ ¬ gPt n P x y = -1 then 2 else 0) else 1
def mFrF (n : Nat) (P : Nat → Nat → Int32) (i : Nat) (k : Nat) (m : Int32) : Int32 := if gOp n P i (nI k) && !gCl n P i (nI k) then m ||| gBit k else m
def mFr (n : Nat) (P : Nat → Nat → Int32) (i : Nat) : Int32 := gF 4 (mFrF n P i) 0 0
def mAt (n : Nat) (P : Nat → Nat → Int32) (x y : Int32) : Int32 := gS n (fun i => gSt P i && gCov P i (P i 5) x y) (fun i => nI (100 + i)) (gPt n P x y) 0
def mWF (P : Nat → Nat → Int32) (b : Bool) (i : Nat) (a : Int32) : Int32 := if gSt P i = b then a + P i 4 else a
def mW (n : Nat) (P : Nat → Nat → Int32) (b : Bool) : Int32 := gF n (mWF P b) 0 0
def mMC (n : Nat) (P : Nat → Nat → Int32) (i j : Nat) (k : Nat) : Bool := gOp n P i (nI (k / 4)) && (gOp n P j (nI (k % 4)) && decide (0 < gSh P i (nI (k / 4)) j (nI (k % 4))))
def mMy (n : Nat) (P : Nat → Nat → Int32) (i j : Nat) : Bool := gE 16 (mMC n P i j) 0
def mCgF (n : Nat) (P : Nat → Nat → Int32) (i j : Nat) (a : Int32) : Int32 := if mMy n P i j then a + 1 else a
def mCgR (n : Nat) (P : Nat → Nat → Int32) (i : Nat) (a : Int32) : Int32 := gF n (mCgF n P i) (i + 1) a
def mCg (n : Nat) (P : Nat → Nat → Int32) : Int32 := gF n (mCgR n P) 0 0
theorem gSt_f {P : Nat → Nat → Int32} {i : Nat} (h : P i 5 = -1) : gSt P i = false := by simp [gSt, h]
theorem gSt_t {P : Nat → Nat → Int32} {i : Nat} (h : ¬ P i 5 = -1) : gSt P i = true := by simp [gSt, h]
theorem bd_ok4 {n : Nat} {P : Nat → Nat → Int32} (h : bd_ok n P) {i : Nat} (hi : i < n) (q : ¬ P i 5 = -1) : ok4 (P i 5) := by
  obtain ⟨-, -, -, -, -, h5⟩ := h i hi
  rcases h5 with h5 | h5
  · exact absurd h5 q
  · exact h5
theorem mHs_in (P : Nat → Nat → Int32) (i : Nat) (c x y : Int32) : mHs P i c x y = (mIn x (gL P i c) (gL P i c + P i 2 - 1) && mIn y (gT P i c) (gT P i c + P i 3 - 1)) := by
  unfold mHs mIn
  rw [← Bool.decide_and, decide_eq_decide]
  constructor
  · rintro ⟨h1, h2, h3, h4⟩; exact ⟨⟨h1, h2⟩, h3, h4⟩
  · rintro ⟨⟨h1, h2⟩, h3, h4⟩; exact ⟨h1, h2, h3, h4⟩
theorem gLL_in {n : Nat} {P : Nat → Nat → Int32} (h : bd_ok n P) {i : Nat} (hi : i < n) {j : Nat} (hj : j < n) : gLL P i j = (gSt P j && (mIn (P i 1) (gT P j (P j 5)) (gT P j (P j 5) + P j 3 - 1) && decide (P i 0 < gL P j (P j 5) + P j 2 - 1))) := by
  rw [gLL_alt h hi hj]
  unfold mIn
  rw [← Bool.decide_and]
  congr 1
  rw [decide_eq_decide]
  constructor
  · rintro ⟨h1, h2, h3⟩; exact ⟨⟨h1, h2⟩, h3⟩
  · rintro ⟨⟨h1, h2⟩, h3⟩; exact ⟨h1, h2, h3⟩
theorem gSh_posn {n : Nat} {P : Nat → Nat → Int32} (h : bd_ok n P) {i : Nat} (hi : i < n) (c : Int32) {j : Nat} (hj : j < n) (d : Int32) : ¬ gSh P i c j d = 0 ↔ 0 < gSh P i c j d := by
  rw [gSh_pos h hi c hj d]
  exact Classical.not_not
def gPr (n : Nat) (P : Nat → Nat → Int32) (i k : Nat) : Int32 := if k = 6 then gMk n P i else if k = 7 then gFr n P i else if k = 8 then gCr n P i else P i k
theorem gF4 (f : Nat → Int32 → Int32) (a : Int32) : gF 4 f 0 a = f 3 (f 2 (f 1 (f 0 a))) := rfl
set_option maxRecDepth 100000 in
theorem fr8 : ∀ o0 o1 o2 o3 c0 c1 c2 c3 : Bool,
    (let m0 := if o0 && !c0 then (0 : Int32) ||| gBit 0 else 0
     let m1 := if o1 && !c1 then m0 ||| gBit 1 else m0
     let m2 := if o2 && !c2 then m1 ||| gBit 2 else m1
     if o3 && !c3 then m2 ||| gBit 3 else m2) =
    (let m0 := if o0 then (0 : Int32) ||| gBit 0 else 0
     let m1 := if o1 then m0 ||| gBit 1 else m0
     let m2 := if o2 then m1 ||| gBit 2 else m1
     let m3 := if o3 then m2 ||| gBit 3 else m2
     let q0 := if hB m3 (nI 0) && c0 then m3 &&& (gBit 0 ^^^ (-1)) else m3
     let q1 := if hB q0 (nI 1) && c1 then q0 &&& (gBit 1 ^^^ (-1)) else q0
     let q2 := if hB q1 (nI 2) && c2 then q1 &&& (gBit 2 ^^^ (-1)) else q1
     if hB q2 (nI 3) && c3 then q2 &&& (gBit 3 ^^^ (-1)) else q2) := by decide +kernel
theorem mFr_eq (n : Nat) (P : Nat → Nat → Int32) (i : Nat) : mFr n P i = gFr n P i :=
  fr8 (gOp n P i (nI 0)) (gOp n P i (nI 1)) (gOp n P i (nI 2)) (gOp n P i (nI 3)) (gCl n P i (nI 0)) (gCl n P i (nI 1)) (gCl n P i (nI 2)) (gCl n P i (nI 3))
