/-! tally counts the same plans -/
section TLY
variable {n : Nat} {P : Nat → Nat → Int32} {A : Nat → Nat → Bool} {aO aC : Nat → Int32}
def tlH (n : Nat) (P : Nat → Nat → Int32) (A : Nat → Nat → Bool) (aO aC : Nat → Int32) : Prop :=
  n ≤ 8 ∧ (∀ j, j < n → aO j = gMk n P j) ∧ (∀ j, j < n → ∀ k, k < 4 → aC (j * 4 + k) = gLc n aO P j (nI k)) ∧ (∀ j, j < n → ∀ k, k < 4 → A j k = gOp n P j (nI k)) ∧ ∀ j, j < n → A j 4 = decide (aO j = 0)
theorem tl_bt (h : tlH n P A aO aC) {j k : Nat} (hj : j < n) (hk : k < 32) : bt (aO j) k = (decide (k < 4) && A j k) := by
  obtain ⟨h8, hO, hC, hA, hA4⟩ := h
  rw [hO j hj, gMk_bt hk]
  by_cases h4 : k < 4
  · rw [hA j hj k h4]
  · rw [decide_eq_false h4]; rfl
theorem tl_fe (h : tlH n P A aO aC) {i k : Nat} {t : Nat → Nat} {blk : Int32} (hi : i < n) (hk : k < 4) (hb : Rb n A P i t blk) : hB (skFr aO i blk) (nI k) = feB A P i k t := by
  have h8 := h.1
  rw [hB_bt _ (by omega), skFr_bt (by omega), tl_bt h hi (by omega), decide_eq_true hk, Bool.true_and]
  cases ha : A i k with
  | false =>
    rw [Bool.false_and]
    symm
    rw [← Bool.not_eq_true, feB_iff, ha]
    simp
  | true =>
    rw [Bool.true_and]
    have hb2 := hb i (Nat.le_refl i) hi k hk ha
    cases hx : bt blk (i * 4 + k) with
    | true =>
      obtain ⟨i', e1, e2, e3⟩ := hb2.mp hx
      symm
      rw [Bool.not_true, ← Bool.not_eq_true, feB_iff]
      rintro ⟨-, q⟩
      rcases q with q | q
      · omega
      · rcases q i' e1 with z | z
        · exact e2 z
        · rw [e3] at z; exact absurd z (by decide)
    | false =>
      symm
      rw [Bool.not_false, feB_iff]
      refine ⟨ha, Or.inr (fun j hj => ?_)⟩
      by_cases h4 : t j = 4
      · exact Or.inl h4
      · refine Or.inr ?_
        cases hc : clP P j (t j) i k with
        | false => rfl
        | true => rw [hb2.mpr ⟨j, hj, h4, hc⟩] at hx; exact absurd hx (by decide)
theorem tl_Rb (h : tlH n P A aO aC) {i k : Nat} {t : Nat → Nat} {blk : Int32} (hi : i < n) (hk : k < 4) (ha : A i k = true) (hb : Rb n A P i t blk) : Rb n A P (i + 1) (updN t i k) (blk ||| aC (i * 4 + k)) := by
  have h8 := h.1
  have hop : ∀ {j q : Nat}, j < n → q < 4 → hB (aO j) (nI q) = A j q := fun {j q} hj hq => by rw [hB_bt _ (by omega), tl_bt h hj (by omega), decide_eq_true hq]; rfl
  intro j h1 h2 q hq haj
  have hs : j * 4 + q < 32 := by omega
  rw [b_or, h.2.2.1 i hi k hk, gLc_bt h8 hi hs, show (j * 4 + q) / 4 = j by omega, show (j * 4 + q) % 4 = q by omega, hop hi hk, hop h2 hq, ha, haj, decide_eq_true (show i < j ∧ j < n from ⟨by omega, h2⟩), Bool.or_eq_true, hb j (by omega) h2 q hq haj]
  constructor
  · rintro (⟨i', e1, e2, e3⟩ | e)
    · exact ⟨i', by omega, by rw [updN_ne (by omega)]; exact e2, by rw [updN_ne (by omega)]; exact e3⟩
    · exact ⟨i, by omega, by rw [updN_eq]; omega, by rw [updN_eq]; unfold clP; simpa using e⟩
  · rintro ⟨i', e1, e2, e3⟩
    by_cases hii : i' = i
    · subst hii
      rw [updN_eq] at e3
      unfold clP at e3
      exact Or.inr (by simpa using e3)
    · rw [updN_ne hii] at e2 e3
      exact Or.inl ⟨i', by omega, e2, e3⟩
theorem tlE_eq {f : Int32 → Int32} {blk a : Int32} {b : Nat} (hb : b < 5) : tlE f blk (a, nI b) = a + nI b * f blk := by
  unfold tlE
  show (if 0 < nI b then a + nI b * f blk else a) = _
  by_cases h : b = 0
  · subst h
    rw [if_neg (by decide), show nI 0 = 0 from rfl, Int32.zero_mul, Int32.add_zero]
  · have hp : (0 : Int32) < nI b := nI_lt (a := 0) (b := b) (by omega) (by omega)
    rw [if_pos hp]
theorem tl_count (h : tlH n P A aO aC) : ∀ (d i : Nat), i + d = n → ∀ (t : Nat → Nat) (blk : Int32), Rb n A P i t blk → tlM aO aC d i blk = nI (cps A P d i t).length := by
  intro d
  induction d with
  | zero => intro i _ t blk _; rw [tlM, cps]; rfl
  | succ d ih =>
    intro i hid t blk hb
    have hi : i < n := by omega
    have h8 := h.1
    rw [tlM, cpk_all]
    have hA4 := h.2.2.2.2 i hi
    by_cases h0 : aO i = 0
    · rw [if_pos h0]
      have hno : ∀ k, k < 4 → feB A P i k t = false := by
        intro k hk
        have := tl_bt h hi (k := k) (by omega)
        rw [h0, b_0, decide_eq_true hk, Bool.true_and] at this
        rw [← Bool.not_eq_true, feB_iff, ← this]
        simp
      have h4 : feB A P i 4 t = true := by rw [feB_iff, hA4, decide_eq_true h0]; simp
      simp only [cpk, hno 0 (by omega), hno 1 (by omega), hno 2 (by omega), hno 3 (by omega), h4, if_pos, List.append_nil, Bool.false_eq_true, if_false, List.nil_append]
      exact ih (i + 1) (by omega) _ blk (Rb_4 hb)
    · rw [if_neg h0]
      have hno4 : feB A P i 4 t = false := by rw [← Bool.not_eq_true, feB_iff, hA4, decide_eq_false h0]; simp
      have loop : ∀ (r k : Nat), k + r = 4 → ∀ (a : Int32) (b : Nat), b ≤ k → ∃ (a' : Int32) (b' : Nat), b' ≤ 4 ∧ tlW (fun b => tlM aO aC d (i + 1) b) aC i (skFr aO i blk) blk k (a, nI b) = (a', nI b') ∧ a' + nI b' * tlM aO aC d (i + 1) blk = a + nI b * tlM aO aC d (i + 1) blk + nI (cpk A P d i t (r + 1) k).length := by
        intro r
        induction r with
        | zero =>
          intro k hk a b hbk
          have hk4 : k = 4 := by omega
          subst hk4
          refine ⟨a, b, hbk, by rw [tlW_end (Nat.le_refl 4)], ?_⟩
          rw [cpk, cpk, hno4, if_neg (by decide), List.append_nil, List.length_nil, show nI 0 = 0 from rfl, Int32.add_zero]
        | succ r ihr =>
          intro k hk a b hbk
          have hk4 : k < 4 := by omega
          rw [tlW_step hk4]
          unfold tlF
          rw [tl_fe h hi hk4 hb, cpk, List.length_append]
          cases hf : feB A P i k t with
          | false =>
            rw [if_neg (by decide), if_neg (by decide), List.length_nil, Nat.zero_add]
            exact ihr (k + 1) (by omega) a b (by omega)
          | true =>
            have hrb := tl_Rb h hi hk4 (feB_iff.mp hf).1 hb
            have hlen := ih (i + 1) (by omega) (updN t i k) _ hrb
            rw [if_pos rfl, if_pos rfl]
            by_cases hq : blk ||| aC (i * 4 + k) = blk
            · rw [if_pos hq]
              rw [hq] at hlen
              obtain ⟨a', b', e1, e2, e3⟩ := ihr (k + 1) (by omega) a (b + 1) (by omega)
              refine ⟨a', b', e1, by rw [← e2, nI_succ], ?_⟩
              rw [e3, nI_succ, Int32.add_mul, Int32.one_mul, ← nI_add, ← hlen]
              simp only [Int32.add_assoc]
            · rw [if_neg hq]
              obtain ⟨a', b', e1, e2, e3⟩ := ihr (k + 1) (by omega) (a + tlM aO aC d (i + 1) (blk ||| aC (i * 4 + k))) b (by omega)
              refine ⟨a', b', e1, e2, ?_⟩
              rw [e3, hlen, ← nI_add]
              simp only [Int32.add_assoc]
              congr 1
              rw [← Int32.add_assoc, Int32.add_comm (nI (cps A P d (i + 1) (updN t i k)).length), Int32.add_assoc]
      obtain ⟨a', b', e1, e2, e3⟩ := loop 4 0 rfl 0 0 (Nat.le_refl 0)
      have e2' : tlW (fun b => tlM aO aC d (i + 1) b) aC i (skFr aO i blk) blk 0 (0, 0) = (a', nI b') := e2
      rw [e2', tlE_eq (by omega), e3]
      show 0 + 0 * _ + _ = _
      rw [Int32.zero_mul, Int32.add_zero, Int32.zero_add]
end TLY
/-! ===== both sides are the same ===== -/
section SAME
variable {n : Nat} {P : Nat → Nat → Int32} {aO aW aN aC aA aM aG aT aH aF aR : Nat → Int32} {kS : Int32}
theorem bt16 : ∀ k, k < 32 → bt 16 k = decide (k = 4) := by decide +kernel
theorem same_full (h8 : n ≤ 8) (hbk : bd_ok n P) (hO : lkI n n P aO aW aN) (hC : lcI n n aO P aC) (pl : Nat → Int32) : tlM aO aC n 0 0 = (mFu n P pl).1 := by
  have hA : ∀ i, i < n → ∀ c, c < 5 → (fun j c => mBt (alF n P j) c) i c = mBt (alF n P i) c := fun _ _ _ _ => rfl
  have hbt : ∀ j, j < n → ∀ k, k < 32 → bt (gMk n P j) k = (decide (k < 4) && gOp n P j (nI k)) := fun j hj k hk => gMk_bt hk
  have ht : tlH n P (fun j c => mBt (alF n P j) c) aO aC := by
    refine ⟨h8, fun j hj => (hO j hj).1, fun j hj k hk => hC j hj k hk, fun j hj k hk => ?_, fun j hj => ?_⟩
    · show mBt (alF n P j) k = _
      rw [bt_mBt _ (by omega)]
      unfold alF
      by_cases h0 : gMk n P j = 0
      · rw [if_pos h0, bt16 k (by omega), decide_eq_false (by omega)]
        have := hbt j hj k (by omega)
        rw [h0, b_0, decide_eq_true hk] at this
        simpa using this
      · rw [if_neg h0, hbt j hj k (by omega), decide_eq_true hk]; rfl
    · show mBt (alF n P j) 4 = _
      rw [bt_mBt _ (by omega), (hO j hj).1]
      unfold alF
      by_cases h0 : gMk n P j = 0
      · rw [if_pos h0, decide_eq_true h0]; decide
      · rw [if_neg h0, decide_eq_false h0, hbt j hj 4 (by omega), decide_eq_false (by omega)]; rfl
  rw [tl_count ht n 0 (by omega) (fun _ => 0) 0 (Rb_0 n _ P _)]
  unfold mFu
  rw [srM2_count hbk hA n 0 (by omega) (fun _ => 0) (0, pl)]
  exact (Int32.zero_add _).symm
end SAME
