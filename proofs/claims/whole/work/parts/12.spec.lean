/-! THE WORDS OF THE BOARD: n points, P i k the k-th number of the point i (x, y, width, height, weight, corner) -/
def iMax (x y : Int32) : Int32 := if x < y then y else x
def iMin (x y : Int32) : Int32 := if y < x then y else x
def gL (P : Nat → Nat → Int32) (i : Nat) (c : Int32) : Int32 := if c = 0 ∨ c = 3 then P i 0 + 1 else P i 0 - P i 2
def gT (P : Nat → Nat → Int32) (i : Nat) (c : Int32) : Int32 := if c = 0 ∨ c = 1 then P i 1 + 1 else P i 1 - P i 3
def gSt (P : Nat → Nat → Int32) (i : Nat) : Bool := decide (¬ P i 5 = -1)
def gCov (P : Nat → Nat → Int32) (i : Nat) (c x y : Int32) : Bool := decide (gL P i c ≤ x ∧ x < gL P i c + P i 2 ∧ gT P i c ≤ y ∧ y < gT P i c + P i 3)
def gPt (n : Nat) (P : Nat → Nat → Int32) (x y : Int32) : Int32 := gS n (fun i => decide (P i 0 = x ∧ P i 1 = y)) nI (-1) 0
def gLb (n : Nat) (P : Nat → Nat → Int32) (x y : Int32) : Int32 := gS n (fun i => gSt P i && gCov P i (P i 5) x y) nI (-1) 0
def gTk (n : Nat) (P : Nat → Nat → Int32) (x y : Int32) : Bool := decide (n < 8) && decide (gPt n P x y = -1)
def gOpM (P : Nat → Nat → Int32) (i : Nat) (c : Int32) : Bool := decide (0 ≤ gL P i c ∧ gL P i c + P i 2 - 1 < 60 ∧ 0 ≤ gT P i c ∧ gT P i c + P i 3 - 1 < 40)
def gHit (P : Nat → Nat → Int32) (i : Nat) (c : Int32) (j : Nat) : Bool := decide (gL P i c ≤ P j 0 ∧ P j 0 ≤ gL P i c + P i 2 - 1 ∧ gT P i c ≤ P j 1 ∧ P j 1 ≤ gT P i c + P i 3 - 1)
def gOp (n : Nat) (P : Nat → Nat → Int32) (i : Nat) (c : Int32) : Bool := gOpM P i c && !gE n (gHit P i c) 0
def gBit (k : Nat) : Int32 := 1 <<< (nI k &&& 31)
def gMkF (n : Nat) (P : Nat → Nat → Int32) (i : Nat) (k : Nat) (m : Int32) : Int32 := if gOp n P i (nI k) then m ||| gBit k else m
def gMk (n : Nat) (P : Nat → Nat → Int32) (i : Nat) : Int32 := gF 4 (gMkF n P i) 0 0
def gLen (a la b lb : Int32) : Int32 := iMax 0 (iMin (a + la) (b + lb) - iMax a b)
def gSh (P : Nat → Nat → Int32) (i : Nat) (c : Int32) (j : Nat) (d : Int32) : Int32 := gLen (gL P i c) (P i 2) (gL P j d) (P j 2) * gLen (gT P i c) (P i 3) (gT P j d) (P j 3)
def gClB (P : Nat → Nat → Int32) (i : Nat) (c : Int32) (j : Nat) : Bool := decide (¬ j = i) && (gSt P j && decide (0 < gSh P i c j (P j 5)))
def gCl (n : Nat) (P : Nat → Nat → Int32) (i : Nat) (c : Int32) : Bool := gE n (gClB P i c) 0
def hB (m b : Int32) : Bool := decide (¬ ((m.toUInt32 >>> (b.toUInt32 &&& Int32.toUInt32 31)).toInt32 &&& 1) = 0)
def gFrF (n : Nat) (P : Nat → Nat → Int32) (i : Nat) (k : Nat) (m : Int32) : Int32 := if hB m (nI k) && gCl n P i (nI k) then m &&& (gBit k ^^^ (-1)) else m
def gFr (n : Nat) (P : Nat → Nat → Int32) (i : Nat) : Int32 := gF 4 (gFrF n P i) 0 (gMk n P i)
def gPL (P : Nat → Nat → Int32) (i j : Nat) : Bool := decide (P j 1 = P i 1 ∧ P i 0 < P j 0)
def gLL (P : Nat → Nat → Int32) (i j : Nat) : Bool := gSt P j && decide (P i 0 + 1 < gL P j (P j 5) + P j 2 ∧ gT P j (P j 5) ≤ P i 1 ∧ P i 1 < gT P j (P j 5) + P j 3)
def gCrF (P : Nat → Nat → Int32) (i j : Nat) (a : Int32) : Int32 := if gLL P i j then (if gPL P i j then a + 1 else a) + 1 else if gPL P i j then a + 1 else a
def gCr (n : Nat) (P : Nat → Nat → Int32) (i : Nat) : Int32 := gF n (gCrF P i) 0 0
def gNF (P : Nat → Nat → Int32) (i : Nat) (a : Int32) : Int32 := if gSt P i then a + 1 else a
def gN (n : Nat) (P : Nat → Nat → Int32) : Int32 := gF n (gNF P) 0 0
def gSWF (P : Nat → Nat → Int32) (i : Nat) (a : Int32) : Int32 := if gSt P i then a + P i 4 else a
def gSW (n : Nat) (P : Nat → Nat → Int32) : Int32 := gF n (gSWF P) 0 0
def gAWF (P : Nat → Nat → Int32) (i : Nat) (a : Int32) : Int32 := a + P i 4
def gAW (n : Nat) (P : Nat → Nat → Int32) : Int32 := gF n (gAWF P) 0 0
def gSQF (P : Nat → Nat → Int32) (i : Nat) (a : Int32) : Int32 := if gSt P i then a + P i 2 * P i 3 else a
def gSQ (n : Nat) (P : Nat → Nat → Int32) : Int32 := gF n (gSQF P) 0 0
def gWOF (n : Nat) (P : Nat → Nat → Int32) (i : Nat) (a : Int32) : Int32 := if gMk n P i = 0 then a + 1 else a
def gWO (n : Nat) (P : Nat → Nat → Int32) : Int32 := gF n (gWOF n P) 0 0
def gCDF (n : Nat) (P : Nat → Nat → Int32) (i : Nat) (a : Int32) : Int32 := if gSt P i then a else a + gCr n P i
def gCD (n : Nat) (P : Nat → Nat → Int32) : Int32 := gF n (gCDF n P) 0 0
/-- a board of n points stands in a world -/
def bd_in (w : va_W) (tys : List (ClassId × FieldType)) (ob n : Nat) (P : Nat → Nat → Int32) : Prop :=
  ∃ (qb qc t0 oc : Nat) (cI : ClassId) (f : Nat → Int32), w[qb]? = some (ob, .inr (0, [.ref oc, .int (nI n)])) ∧ w[qc]? = some (oc, .inl (cI, 48, .inl f)) ∧ tys[t0]? = some (cI, .int) ∧ n ≤ 8 ∧ ∀ i, i < n → ∀ k, k < 6 → f (8 * k + i) = P i k
