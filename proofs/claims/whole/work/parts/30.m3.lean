theorem bI_1t {b : Bool} (h : ¬ 1 = bI b) : b = false := by cases b with
  | false => rfl
  | true => exact absurd rfl h
theorem bI_1f {b : Bool} (h : 1 = bI b) : b = true := by cases b with
  | false => exact absurd h (by decide)
  | true => rfl
theorem bI_0t {b : Bool} (h : ¬ 0 = bI b) : b = true := by cases b with
  | false => exact absurd rfl h
  | true => rfl
theorem bI_0f {b : Bool} (h : 0 = bI b) : b = false := by cases b with
  | false => rfl
  | true => exact absurd h (by decide)
/-- the numbers that count() tells -/
def mCnt (n : Nat) (P : Nat → Nat → Int32) (q : Int32) (k : Nat) : Int32 :=
  if k = 0 then nI n else if k = 1 then gN n P else if k = 2 then mW n P true else if k = 3 then mW n P false else if k = 4 then gSQ n P else if k = 5 then gWO n P else if k = 6 then mCg n P else if k = 7 then gCD n P else q
