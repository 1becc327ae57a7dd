section BITS1
/-! ===== Int32 by its bits: bt x i ===== -/
def bt (x : Int32) (i : Nat) : Bool := x.toBitVec.getLsbD i
theorem b_ext {x y : Int32} (h : ∀ i, i < 32 → bt x i = bt y i) : x = y := Int32.toBitVec_inj.mp (BitVec.eq_of_getLsbD_eq (fun i hi => h i hi))
theorem b_or (x y : Int32) (i : Nat) : bt (x ||| y) i = (bt x i || bt y i) := by unfold bt; rw [Int32.toBitVec_or, BitVec.getLsbD_or]
theorem b_and (x y : Int32) (i : Nat) : bt (x &&& y) i = (bt x i && bt y i) := by unfold bt; rw [Int32.toBitVec_and, BitVec.getLsbD_and]
theorem b_xor (x y : Int32) (i : Nat) : bt (x ^^^ y) i = (bt x i ^^ bt y i) := by unfold bt; rw [Int32.toBitVec_xor, BitVec.getLsbD_xor]
theorem b_big {x : Int32} {i : Nat} (h : 32 ≤ i) : bt x i = false := BitVec.getLsbD_of_ge _ _ h
theorem b_255 (i : Nat) : bt 255 i = decide (i < 8) := by
  rcases Nat.lt_or_ge i 32 with h | h
  · exact (by decide +kernel : ∀ i, i < 32 → bt 255 i = decide (i < 8)) i h
  · rw [b_big h, decide_eq_false (by omega)]
theorem b_65535 (i : Nat) : bt 65535 i = decide (i < 16) := by
  rcases Nat.lt_or_ge i 32 with h | h
  · exact (by decide +kernel : ∀ i, i < 32 → bt 65535 i = decide (i < 16)) i h
  · rw [b_big h, decide_eq_false (by omega)]
theorem b_m1 : ∀ i, i < 32 → bt (-1) i = true := by decide +kernel
theorem b_0 (i : Nat) : bt 0 i = false := BitVec.getLsbD_zero
theorem s_l : ∀ n, n < 32 → ((nI n &&& 31).toBitVec.smod 32).toNat = n := by decide +kernel
theorem s_u : ∀ n, n < 32 → (((nI n).toUInt32 &&& Int32.toUInt32 31).toBitVec % 32).toNat = n := by decide +kernel
theorem b_shl (n : Nat) (hn : n < 32) (x : Int32) {i : Nat} (hi : i < 32) : bt (x <<< (nI n &&& 31)) i = (decide (n ≤ i) && bt x (i - n)) := by
  unfold bt
  rw [Int32.toBitVec_shiftLeft]
  show (x.toBitVec <<< ((nI n &&& 31).toBitVec.smod 32).toNat).getLsbD i = _
  rw [s_l n hn, BitVec.getLsbD_shiftLeft]
  rcases Nat.lt_or_ge i n with h | h
  · simp [h, Nat.not_le.mpr h]
  · simp [hi, h, Nat.not_lt.mpr h]
theorem b_ushr (n : Nat) (hn : n < 32) (x : Int32) (i : Nat) : bt ((x.toUInt32 >>> ((nI n).toUInt32 &&& Int32.toUInt32 31)).toInt32) i = bt x (n + i) := by
  show (x.toUInt32 >>> ((nI n).toUInt32 &&& Int32.toUInt32 31)).toBitVec.getLsbD i = x.toUInt32.toBitVec.getLsbD (n + i)
  rw [UInt32.toBitVec_shiftRight]
  show (x.toUInt32.toBitVec >>> (((nI n).toUInt32 &&& Int32.toUInt32 31).toBitVec % 32).toNat).getLsbD i = _
  rw [s_u n hn, BitVec.getLsbD_ushiftRight]
theorem b_sshr (n : Nat) (hn : n < 32) (x : Int32) {i : Nat} (hi : i < 32) : bt (x >>> (nI n &&& 31)) i = if n + i < 32 then bt x (n + i) else bt x 31 := by
  unfold bt
  rw [Int32.toBitVec_shiftRight]
  show (x.toBitVec.sshiftRight ((nI n &&& 31).toBitVec.smod 32).toNat).getLsbD i = _
  rw [s_l n hn, BitVec.getLsbD_sshiftRight, BitVec.msb_eq_getLsbD_last]
  simp [hi]
theorem b_shl8 (x : Int32) {i : Nat} (hi : i < 32) : bt (x <<< ((8 : Int32) &&& 31)) i = (decide (8 ≤ i) && bt x (i - 8)) := b_shl 8 (by omega) x hi
theorem b_shl16 (x : Int32) {i : Nat} (hi : i < 32) : bt (x <<< ((16 : Int32) &&& 31)) i = (decide (16 ≤ i) && bt x (i - 16)) := b_shl 16 (by omega) x hi
theorem b_shl24 (x : Int32) {i : Nat} (hi : i < 32) : bt (x <<< ((24 : Int32) &&& 31)) i = (decide (24 ≤ i) && bt x (i - 24)) := b_shl 24 (by omega) x hi
theorem b_sshr8 (x : Int32) {i : Nat} (hi : i < 32) : bt (x >>> ((8 : Int32) &&& 31)) i = if 8 + i < 32 then bt x (8 + i) else bt x 31 := b_sshr 8 (by omega) x hi
end BITS1
theorem bt_one : ∀ i, i < 32 → bt 1 i = decide (i = 0) := by decide +kernel
theorem and1_0 (y : Int32) : y &&& 1 = 0 ↔ bt y 0 = false := by
  constructor
  · intro h
    have h1 := b_and y 1 0
    rw [h, b_0, bt_one 0 (by omega)] at h1
    simpa using h1.symm
  · intro h
    apply b_ext
    intro i hi
    rw [b_and, b_0, bt_one i hi]
    by_cases h0 : i = 0
    · subst h0; rw [h]; rfl
    · simp [h0]
theorem hB_bt (x : Int32) {k : Nat} (hk : k < 32) : hB x (nI k) = bt x k := by
  have h1 := b_ushr k hk x 0
  unfold hB
  cases hb : bt x k with
  | true =>
    rw [decide_eq_true_iff, and1_0, h1, Nat.add_zero, hb]
    decide
  | false =>
    rw [decide_eq_false_iff_not, and1_0, h1, Nat.add_zero, hb]
    simp
theorem bt_shl1 {k i : Nat} (hk : k < 32) (hi : i < 32) : bt (1 <<< (nI k &&& 31)) i = decide (i = k) := by
  rw [b_shl k hk 1 hi, bt_one _ (by omega)]
  rw [← Bool.decide_and, decide_eq_decide]
  omega
theorem gMkF_bt {n i k s : Nat} {P : Nat → Nat → Int32} {m : Int32} (hk : k < 32) (hs : s < 32) : bt (gMkF n P i k m) s = (bt m s || (gOp n P i (nI k) && decide (s = k))) := by
  unfold gMkF gBit
  cases h : gOp n P i (nI k) with
  | true => rw [if_pos rfl, b_or, bt_shl1 hk hs]; simp
  | false => rw [if_neg (by decide)]; simp
theorem gMk_bt {n i s : Nat} {P : Nat → Nat → Int32} (hs : s < 32) : bt (gMk n P i) s = (decide (s < 4) && gOp n P i (nI s)) := by
  unfold gMk
  rw [gF4, gMkF_bt (by omega) hs, gMkF_bt (by omega) hs, gMkF_bt (by omega) hs, gMkF_bt (by omega) hs, b_0]
  by_cases h : s < 4
  · rcases (show s = 0 ∨ s = 1 ∨ s = 2 ∨ s = 3 by omega) with rfl | rfl | rfl | rfl <;> simp
  · have h0 : ¬ s = 0 := by omega
    have h1 : ¬ s = 1 := by omega
    have h2 : ¬ s = 2 := by omega
    have h3 : ¬ s = 3 := by omega
    simp [h, h0, h1, h2, h3]
theorem gLcI_bt {O : Nat → Int32} {P : Nat → Nat → Int32} {i j k s : Nat} {c m : Int32} (hk : j * 4 + k < 32) (hs : s < 32) : bt (gLcI O P i c j k m) s = (bt m s || ((hB (O j) (nI k) && decide (0 < gSh P i c j (nI k))) && decide (s = j * 4 + k))) := by
  unfold gLcI
  cases h : (hB (O j) (nI k) && decide (0 < gSh P i c j (nI k))) with
  | true => rw [if_pos rfl, b_or, bt_shl1 hk hs]; simp
  | false => rw [if_neg (by decide)]; simp
theorem gLcO_bt {O : Nat → Int32} {P : Nat → Nat → Int32} {i j s : Nat} {c m : Int32} (hj : j < 8) (hs : s < 32) : bt (gLcO O P i c j m) s = (bt m s || (decide (s / 4 = j) && (hB (O j) (nI (s % 4)) && decide (0 < gSh P i c j (nI (s % 4)))))) := by
  unfold gLcO
  rw [gF4, gLcI_bt (by omega) hs, gLcI_bt (by omega) hs, gLcI_bt (by omega) hs, gLcI_bt (by omega) hs]
  by_cases h : s / 4 = j
  · rcases (show s = j * 4 + 0 ∨ s = j * 4 + 1 ∨ s = j * 4 + 2 ∨ s = j * 4 + 3 by omega) with e | e | e | e
    · rw [show s % 4 = 0 by omega]
      have e1 : ¬ s = j * 4 + 1 := by omega
      have e2 : ¬ s = j * 4 + 2 := by omega
      have e3 : ¬ s = j * 4 + 3 := by omega
      have e0 : s = j * 4 := by omega
      simp only [decide_eq_true h, decide_eq_true e, decide_eq_false e1, decide_eq_false e2, decide_eq_false e3, Bool.and_false, Bool.and_true, Bool.or_false, Bool.true_and]
    · rw [show s % 4 = 1 by omega]
      have e1 : ¬ s = j * 4 + 0 := by omega
      have e2 : ¬ s = j * 4 + 2 := by omega
      have e3 : ¬ s = j * 4 + 3 := by omega
      simp only [decide_eq_true h, decide_eq_true e, decide_eq_false e1, decide_eq_false e2, decide_eq_false e3, Bool.and_false, Bool.and_true, Bool.or_false, Bool.true_and]
    · rw [show s % 4 = 2 by omega]
      have e1 : ¬ s = j * 4 + 0 := by omega
      have e2 : ¬ s = j * 4 + 1 := by omega
      have e3 : ¬ s = j * 4 + 3 := by omega
      simp only [decide_eq_true h, decide_eq_true e, decide_eq_false e1, decide_eq_false e2, decide_eq_false e3, Bool.and_false, Bool.and_true, Bool.or_false, Bool.true_and]
    · rw [show s % 4 = 3 by omega]
      have e1 : ¬ s = j * 4 + 0 := by omega
      have e2 : ¬ s = j * 4 + 1 := by omega
      have e3 : ¬ s = j * 4 + 2 := by omega
      simp only [decide_eq_true h, decide_eq_true e, decide_eq_false e1, decide_eq_false e2, decide_eq_false e3, Bool.and_false, Bool.and_true, Bool.or_false, Bool.true_and]
  · have e0 : ¬ s = j * 4 + 0 := by omega
    have e1 : ¬ s = j * 4 + 1 := by omega
    have e2 : ¬ s = j * 4 + 2 := by omega
    have e3 : ¬ s = j * 4 + 3 := by omega
    simp only [decide_eq_false h, decide_eq_false e0, decide_eq_false e1, decide_eq_false e2, decide_eq_false e3, Bool.and_false, Bool.or_false, Bool.false_and]
theorem gLcF_bt {n s : Nat} {O : Nat → Int32} {P : Nat → Nat → Int32} {i : Nat} {c : Int32} (hn : n ≤ 8) (hs : s < 32) : ∀ (k j : Nat) (m : Int32), j + k = n → bt (gF n (gLcO O P i c) j m) s = (bt m s || (decide (j ≤ s / 4 ∧ s / 4 < n) && (hB (O (s / 4)) (nI (s % 4)) && decide (0 < gSh P i c (s / 4) (nI (s % 4))))))
  | 0, j, m, h => by
    have h9 : n ≤ j := by omega
    have e : ¬ (j ≤ s / 4 ∧ s / 4 < n) := by omega
    rw [gF_end h9, decide_eq_false e]
    simp
  | k + 1, j, m, h => by
    have h9 : j < n := by omega
    rw [gF_step h9, gLcF_bt hn hs k (j + 1) _ (by omega), gLcO_bt (by omega) hs]
    by_cases hj : s / 4 = j
    · have e1 : ¬ (j + 1 ≤ s / 4 ∧ s / 4 < n) := by omega
      have e2 : j ≤ s / 4 ∧ s / 4 < n := by omega
      rw [decide_eq_false e1, decide_eq_true e2, decide_eq_true hj, hj]
      simp
    · by_cases hq : j + 1 ≤ s / 4 ∧ s / 4 < n
      · have e2 : j ≤ s / 4 ∧ s / 4 < n := by omega
        rw [decide_eq_true hq, decide_eq_true e2, decide_eq_false hj]
        simp
      · have e2 : ¬ (j ≤ s / 4 ∧ s / 4 < n) := by omega
        rw [decide_eq_false hq, decide_eq_false e2, decide_eq_false hj]
        simp
/-- the spots that an open corner blocks -/
theorem gLc_bt {n s : Nat} {O : Nat → Int32} {P : Nat → Nat → Int32} {i : Nat} {c : Int32} (hn : n ≤ 8) (hi : i < n) (hs : s < 32) : bt (gLc n O P i c) s = (hB (O i) c && (decide (i < s / 4 ∧ s / 4 < n) && (hB (O (s / 4)) (nI (s % 4)) && decide (0 < gSh P i c (s / 4) (nI (s % 4)))))) := by
  unfold gLc
  cases h : hB (O i) c with
  | true =>
    rw [if_pos rfl, gLcF_bt hn hs (n - (i + 1)) (i + 1) 0 (by omega), b_0]
    simp only [Bool.false_or, Bool.true_and]
    rfl
  | false => rw [if_neg (by decide), b_0]; rfl
theorem topS_bt {n s : Nat} {aA : Nat → Int32} (hn : n ≤ 8) (hs : s < 32) (hm : ∀ j, j < n → ∀ k, 4 ≤ k → bt (aA j) k = false) : ∀ (k i : Nat), i + k = n → bt (topS aA n i) s = (decide (i ≤ s / 4 ∧ s / 4 < n) && bt (aA (s / 4)) (s % 4))
  | 0, i, h => by
    have e : ¬ (i ≤ s / 4 ∧ s / 4 < n) := by omega
    rw [topS_end (by omega), b_0, decide_eq_false e]
    rfl
  | k + 1, i, h => by
    rw [topS_step (by omega), b_or, topS_bt hn hs hm k (i + 1) (by omega), b_shl (i * 4) (by omega) _ hs]
    by_cases hi : s / 4 = i
    · have e1 : ¬ (i + 1 ≤ s / 4 ∧ s / 4 < n) := by omega
      have e2 : i ≤ s / 4 ∧ s / 4 < n := by omega
      have e3 : i * 4 ≤ s := by omega
      rw [decide_eq_false e1, decide_eq_true e2, decide_eq_true e3, hi, show s - i * 4 = s % 4 by omega]
      simp
    · by_cases hq : i + 1 ≤ s / 4 ∧ s / 4 < n
      · have e2 : i ≤ s / 4 ∧ s / 4 < n := by omega
        rw [decide_eq_true hq, decide_eq_true e2, hm i (by omega) (s - i * 4) (by omega)]
        simp
      · have e2 : ¬ (i ≤ s / 4 ∧ s / 4 < n) := by omega
        rw [decide_eq_false hq, decide_eq_false e2]
        by_cases e3 : i * 4 ≤ s
        · rw [hm i (by omega) (s - i * 4) (by omega)]
          simp
        · rw [decide_eq_false e3]
          simp
theorem skFr_bt {aA : Nat → Int32} {i k : Nat} {blk : Int32} (hk : i * 4 + k < 32) : bt (skFr aA i blk) k = (bt (aA i) k && !bt blk (i * 4 + k)) := by
  unfold skFr
  rw [b_and, b_xor, b_ushr (i * 4) (by omega), b_m1 k (by omega)]
  simp
