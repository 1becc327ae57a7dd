/-! DOUBLES OF A SHARE: the numbers c * 2^q of 53 digits, what the class's bitsOf does to them -/
def dn (c : Nat) (q : Int) : UInt64 := FP.Core.of64 (.fin false c q)
def dnok (c : Nat) (q : Int) : Prop := 2 ^ 52 ≤ c ∧ c < 2 ^ 53 ∧ -1000 ≤ q ∧ q ≤ 900
theorem b64_qmin : FP.Core.b64.qmin = -1074 := by decide
theorem b64_qmax : FP.Core.b64.qmax = 971 := by decide
theorem b64_tails : FP.Core.b64.tails = 2 ^ 52 := rfl
theorem b64_exps : FP.Core.b64.exps = 2 ^ 11 := rfl
theorem b64_p : FP.Core.b64.p = 53 := rfl
theorem dn_fits {c : Nat} {q : Int} (h : dnok c q) : FP.Core.fits FP.Core.b64 (.fin false c q) := by
  obtain ⟨h1, h2, h3, h4⟩ := h
  refine ⟨h2, ?_, ?_, Or.inr h1⟩
  · rw [b64_qmin]; omega
  · rw [b64_qmax]; omega
theorem dn_val {c : Nat} {q : Int} (h : dnok c q) : FP.Core.val64 (dn c q) = .fin false c q := FP.Core.val64_of64 (dn_fits h)
theorem dn_of {x : UInt64} {c : Nat} {q : Int} (hv : FP.Core.val64 x = .fin false c q) : x = dn c q := by
  have hn : FP.Core.val64 x ≠ .nan := by rw [hv]; exact fun z => by cases z
  unfold dn
  rw [← hv, FP.Core.of64_val64 hn]
theorem n64_le {x : UInt64} (h : x.toNat ≤ 9218868437227405312) : vf_n64 x := by
  unfold vf_n64
  rw [UInt64.le_iff_toNat_le, UInt64.toNat_and]
  exact Nat.le_trans Nat.and_le_left h
theorem enc_fin {c : Nat} {q : Int} (h : FP.Core.fits FP.Core.b64 (.fin false c q)) : FP.Core.encode FP.Core.b64 (.fin false c q) ≤ 9218868437227405312 := by
  obtain ⟨h1, h2, h3, h4⟩ := h
  rw [b64_p] at h1
  rw [b64_qmin] at h2
  rw [b64_qmax] at h3
  show (if c < FP.Core.b64.tails then FP.Core.assemble FP.Core.b64 false 0 c else FP.Core.assemble FP.Core.b64 false ((q - FP.Core.b64.qmin).toNat + 1) (c - FP.Core.b64.tails)) ≤ _
  unfold FP.Core.assemble
  rw [b64_qmin, b64_tails, b64_exps]
  by_cases hc : c < 2 ^ 52
  · rw [if_pos hc]
    simp only [Bool.toNat_false]
    omega
  · rw [if_neg hc]
    simp only [Bool.toNat_false]
    have : (q - -1074).toNat ≤ 2045 := by omega
    omega
theorem n64_val {x : UInt64} {c : Nat} {q : Int} (hv : FP.Core.val64 x = .fin false c q) : vf_n64 x := by
  have hf := FP.Core.val64_fits x
  rw [hv] at hf
  refine n64_le ?_
  have h1 := enc_fin hf
  rw [dn_of hv]
  unfold dn FP.Core.of64
  rw [UInt64.toNat_ofNat_of_lt' (Nat.lt_of_le_of_lt h1 (by decide))]
  exact h1
theorem dn_toNat {c : Nat} {q : Int} (h : dnok c q) : (dn c q).toNat = (q + 1075).toNat * 2 ^ 52 + (c - 2 ^ 52) := by
  have h1 := enc_fin (dn_fits h)
  obtain ⟨a1, a2, a3, a4⟩ := h
  unfold dn FP.Core.of64
  rw [UInt64.toNat_ofNat_of_lt' (Nat.lt_of_le_of_lt h1 (by decide))]
  show (if c < FP.Core.b64.tails then FP.Core.assemble FP.Core.b64 false 0 c else FP.Core.assemble FP.Core.b64 false ((q - FP.Core.b64.qmin).toNat + 1) (c - FP.Core.b64.tails)) = _
  unfold FP.Core.assemble
  rw [b64_qmin, b64_tails, b64_exps, if_neg (by omega)]
  simp only [Bool.toNat_false]
  have : (q - -1074).toNat + 1 = (q + 1075).toNat := by omega
  rw [this]
  omega
theorem val_two : FP.Core.val64 4611686018427387904 = .fin false (2 ^ 52) (-51) := by decide +kernel
theorem val_one : FP.Core.val64 FP.dconst1 = .fin false (2 ^ 52) (-52) := by decide +kernel
theorem val_zero : FP.Core.val64 FP.dconst0 = .fin false 0 (-1074) := by decide +kernel
theorem val_52 : FP.Core.val64 4841369599423283200 = .fin false (2 ^ 52) 0 := by decide +kernel
/-- twice the number -/
theorem dn_dbl_v {c : Nat} {q : Int} (h : dnok c q) (hq : q < 900) : FP.Core.val64 (FP.dmul (dn c q) 4611686018427387904) = .fin false c (q + 1) := by
  show FP.Core.val64 (FP.Core.dmul (dn c q) 4611686018427387904) = .fin false c (q + 1)
  rw [FP.Core.val64_dmul, dn_val h, val_two]
  show FP.Core.roundRatio FP.Core.b64 false (c * 2 ^ 52) 1 (q + -51) = _
  have h' : dnok c (q + 1) := by obtain ⟨a1, a2, a3, a4⟩ := h; exact ⟨a1, a2, by omega, by omega⟩
  refine FP.Core.roundRatio_exact FP.Core.good_b64 (by decide) (dn_fits h') ?_
  rw [show (q + -51 - (q + 1)).toNat = 0 by omega, show (q + 1 - (q + -51)).toNat = 52 by omega]
  omega
theorem dn_dbl {c : Nat} {q : Int} (h : dnok c q) (hq : q < 900) : FP.dmul (dn c q) 4611686018427387904 = dn c (q + 1) := dn_of (dn_dbl_v h hq)
/-- the number beside 1.0 -/
theorem dn_cmp_lt {c : Nat} {q : Int} (h : dnok c q) (hq : q < -52) : FP.dcmp (dn c q) FP.dconst1 = some .lt := by
  show FP.Core.order (FP.Core.val64 (dn c q)) (FP.Core.val64 FP.dconst1) = some .lt
  rw [dn_val h, val_one]
  obtain ⟨a1, a2, a3, a4⟩ := h
  show some (compare (FP.Core.signed false (FP.Core.inUnits c q (min q (-52)))) (FP.Core.signed false (FP.Core.inUnits (2 ^ 52) (-52) (min q (-52))))) = _
  rw [show min q (-52) = q by omega]
  have e1 : FP.Core.inUnits c q q = c := by
    unfold FP.Core.inUnits
    rw [show (q - q).toNat = 0 by omega, Nat.pow_zero, Nat.mul_one]
  have e2 : 2 ^ 53 ≤ FP.Core.inUnits (2 ^ 52) (-52) q := by
    unfold FP.Core.inUnits
    rw [show (2 : Nat) ^ 53 = 2 ^ 52 * 2 ^ 1 by decide]
    exact Nat.mul_le_mul_left _ (Nat.pow_le_pow_right (by decide) (by omega))
  rw [e1]
  unfold FP.Core.signed
  generalize FP.Core.inUnits (2 ^ 52) (-52) q = z at e2
  have hlt : (c : Int) < (z : Int) := by omega
  show some (compare (c : Int) (z : Int)) = some .lt
  rw [Int.compare_eq_lt.mpr hlt]
theorem dn_cmp_ge {c : Nat} (h : dnok c (-52)) : FP.dcmp (dn c (-52)) FP.dconst1 = some .eq ∨ FP.dcmp (dn c (-52)) FP.dconst1 = some .gt := by
  have e : FP.dcmp (dn c (-52)) FP.dconst1 = some (compare (c : Int) ((2 ^ 52 : Nat) : Int)) := by
    show FP.Core.order (FP.Core.val64 (dn c (-52))) (FP.Core.val64 FP.dconst1) = _
    rw [dn_val h, val_one]
    show some (compare (FP.Core.signed false (FP.Core.inUnits c (-52) (min (-52) (-52)))) (FP.Core.signed false (FP.Core.inUnits (2 ^ 52) (-52) (min (-52) (-52))))) = _
    rw [show FP.Core.inUnits c (-52) (min (-52) (-52)) = c by unfold FP.Core.inUnits; simp, show FP.Core.inUnits (2 ^ 52) (-52) (min (-52) (-52)) = 2 ^ 52 by decide]
    rfl
  rw [e]
  obtain ⟨a1, -⟩ := h
  rcases Nat.lt_or_ge (2 ^ 52) c with z | z
  · exact Or.inr (by rw [Int.compare_eq_gt.mpr (by omega)])
  · exact Or.inl (by rw [Int.compare_eq_eq.mpr (by omega)])
/-- the number beside 0.0 -/
theorem dn_cmp0 {c : Nat} {q : Int} (h : dnok c q) : FP.dcmp (dn c q) FP.dconst0 = some .gt := by
  show FP.Core.order (FP.Core.val64 (dn c q)) (FP.Core.val64 FP.dconst0) = some .gt
  rw [dn_val h, val_zero]
  obtain ⟨a1, a2, a3, a4⟩ := h
  show some (compare (FP.Core.signed false (FP.Core.inUnits c q (min q (-1074)))) (FP.Core.signed false (FP.Core.inUnits 0 (-1074) (min q (-1074))))) = _
  have e2 : FP.Core.inUnits 0 (-1074) (min q (-1074)) = 0 := by unfold FP.Core.inUnits; exact Nat.zero_mul _
  have e1 : 0 < FP.Core.inUnits c q (min q (-1074)) := by unfold FP.Core.inUnits; exact Nat.mul_pos (by omega) (Nat.two_pow_pos _)
  rw [e2]
  generalize FP.Core.inUnits c q (min q (-1074)) = z at e1
  show some (compare (z : Int) (0 : Int)) = some .gt
  rw [Int.compare_eq_gt.mpr (by omega)]
theorem cmp00 : FP.dcmp FP.dconst0 FP.dconst0 = some .eq := by decide +kernel
/-- the digits behind the leading one -/
theorem sub_gen {c d : Nat} (q : Int) (h : d ≤ c) : FP.Core.round FP.Core.b64 (FP.Core.exactSum (.fin false c q) (FP.Core.negate (.fin false d q))) = FP.Core.roundRatio FP.Core.b64 false (c - d) 1 q := by
  have e : FP.Core.sumUnits false c q true d q (min q q) = ((c - d : Nat) : Int) := by
    unfold FP.Core.sumUnits FP.Core.inUnits FP.Core.signed
    rw [show (q - min q q).toNat = 0 by omega, Nat.pow_zero, Nat.mul_one, Nat.mul_one]
    simp
    omega
  have e3 : FP.Core.sumSign false true ((c - d : Nat) : Int) = false := by
    unfold FP.Core.sumSign
    split
    · rfl
    · exact decide_eq_false (by omega)
  have e4 : FP.Core.round FP.Core.b64 (FP.Core.exactSum (.fin false c q) (FP.Core.negate (.fin false d q))) = FP.Core.roundRatio FP.Core.b64 (FP.Core.sumSign false true (FP.Core.sumUnits false c q true d q (min q q))) (FP.Core.sumUnits false c q true d q (min q q)).natAbs 1 (min q q) := rfl
  rw [e4, e, e3, Int.natAbs_natCast, show min q q = q by omega]
theorem dn_sub_v {c : Nat} (h : dnok c (-52)) : FP.Core.val64 (FP.dsub (dn c (-52)) FP.dconst1) = FP.Core.roundRatio FP.Core.b64 false (c - 2 ^ 52) 1 (-52) := by
  show FP.Core.val64 (FP.Core.dsub (dn c (-52)) FP.dconst1) = _
  rw [FP.Core.val64_dsub, dn_val h, val_one]
  exact sub_gen (-52) h.1
theorem frac_case (d : Nat) (hd : d < 2 ^ 52) : (d = 0 ∧ FP.Core.roundRatio FP.Core.b64 false d 1 (-52) = .fin false 0 (-1074)) ∨ ∃ (cf L : Nat), L ≤ 51 ∧ cf = d * 2 ^ (52 - L) ∧ dnok cf ((L : Int) - 104) ∧ FP.Core.roundRatio FP.Core.b64 false d 1 (-52) = .fin false cf ((L : Int) - 104) := by
  by_cases h0 : d = 0
  · left
    subst h0
    exact ⟨rfl, by unfold FP.Core.roundRatio; rw [if_pos rfl, b64_qmin]⟩
  · right
    have l1 : 2 ^ d.log2 ≤ d := Nat.log2_self_le h0
    have l2 : d < 2 ^ (d.log2 + 1) := Nat.lt_log2_self
    have l3 : d.log2 < 52 := (Nat.pow_lt_pow_iff_right (by decide : 1 < 2)).mp (Nat.lt_of_le_of_lt l1 hd)
    generalize d.log2 = L at l1 l2 l3
    have hok : dnok (d * 2 ^ (52 - L)) ((L : Int) - 104) := by
      refine ⟨?_, ?_, by omega, by omega⟩
      · calc 2 ^ 52 = 2 ^ L * 2 ^ (52 - L) := by rw [← Nat.pow_add]; congr 1; omega
          _ ≤ d * 2 ^ (52 - L) := Nat.mul_le_mul_right _ l1
      · calc d * 2 ^ (52 - L) < 2 ^ (L + 1) * 2 ^ (52 - L) := Nat.mul_lt_mul_of_pos_right l2 (Nat.two_pow_pos _)
          _ = 2 ^ 53 := by rw [← Nat.pow_add]; congr 1; omega
    refine ⟨d * 2 ^ (52 - L), L, by omega, rfl, hok, ?_⟩
    refine FP.Core.roundRatio_exact FP.Core.good_b64 (by decide) (dn_fits hok) ?_
    rw [show (-52 - ((L : Int) - 104)).toNat = 52 - L by omega, show ((L : Int) - 104 - -52).toNat = 0 by omega, Nat.pow_zero, Nat.mul_one, Nat.mul_one]
theorem dn_sub_n {c : Nat} (h : dnok c (-52)) : vf_n64 (FP.dsub (dn c (-52)) FP.dconst1) := by
  have hv := dn_sub_v h
  obtain ⟨a1, a2, -⟩ := h
  rcases frac_case (c - 2 ^ 52) (by omega) with ⟨-, e⟩ | ⟨cf, L, -, -, -, e⟩
  · exact n64_val (hv.trans e)
  · exact n64_val (hv.trans e)
theorem dn_frac {c : Nat} (h : dnok c (-52)) : vf_n64 (FP.dmul (FP.dsub (dn c (-52)) FP.dconst1) 4841369599423283200) ∧ FP.d2l (FP.dmul (FP.dsub (dn c (-52)) FP.dconst1) 4841369599423283200) = lN (c - 2 ^ 52) := by
  have hv := dn_sub_v h
  obtain ⟨a1, a2, -⟩ := h
  have hm : ∀ (y : UInt64) (cf : Nat) (q : Int), FP.Core.val64 y = .fin false cf q → FP.Core.val64 (FP.dmul y 4841369599423283200) = FP.Core.roundRatio FP.Core.b64 false (cf * 2 ^ 52) 1 (q + 0) := by
    intro y cf q hy
    show FP.Core.val64 (FP.Core.dmul y 4841369599423283200) = _
    rw [FP.Core.val64_dmul, hy, val_52]
    rfl
  have ht : ∀ d : Nat, d < 2 ^ 52 → (lN d).toInt = (d : Int) := fun d hd => Int64.toInt_ofNat_of_lt (by omega)
  have key : ∀ (y : UInt64) (d cf : Nat) (q : Int), d < 2 ^ 52 → FP.Core.val64 y = .fin false cf q → FP.Core.Whole (d : Int) (.fin false cf q) → vf_n64 y ∧ FP.d2l y = lN d := by
    intro y d cf q hd hy hw
    refine ⟨n64_val hy, ?_⟩
    refine FP.Core.d2l_int ?_
    unfold FP.Core.DInt
    rw [hy, ht d hd]
    exact hw
  rcases frac_case (c - 2 ^ 52) (by omega) with ⟨e0, e⟩ | ⟨cf, L, hL, ec, hok, e⟩
  · rw [e0]
    have h2 := hm _ _ _ (hv.trans e)
    refine key _ 0 0 (-1074) (by decide) (h2.trans ?_) (by unfold FP.Core.Whole FP.Core.signed; simp)
    unfold FP.Core.roundRatio
    rw [if_pos (Nat.zero_mul _), b64_qmin]
  · have h2 := hm _ _ _ (hv.trans e)
    have hok2 : dnok cf ((L : Int) - 52) := by obtain ⟨b1, b2, b3, b4⟩ := hok; exact ⟨b1, b2, by omega, by omega⟩
    refine key _ _ cf ((L : Int) - 52) (by omega) (h2.trans ?_) ?_
    · refine FP.Core.roundRatio_exact FP.Core.good_b64 (by decide) (dn_fits hok2) ?_
      rw [show ((L : Int) - 104 + 0 - ((L : Int) - 52)).toNat = 0 by omega, show ((L : Int) - 52 - ((L : Int) - 104 + 0)).toNat = 52 by omega, Nat.pow_zero, Nat.mul_one, Nat.mul_one]
    · show FP.Core.signed false (cf * 2 ^ ((L : Int) - 52).toNat) = ((c - 2 ^ 52 : Nat) : Int) * ((2 ^ (-((L : Int) - 52)).toNat : Nat) : Int)
      rw [show ((L : Int) - 52).toNat = 0 by omega, show (-((L : Int) - 52)).toNat = 52 - L by omega, Nat.pow_zero, Nat.mul_one, ec]
      show (((c - 2 ^ 52) * 2 ^ (52 - L) : Nat) : Int) = _
      rw [Int.natCast_mul]
/-- the bits, put together -/
theorem lN_shl : ∀ k : Nat, k < 12 → lN (1012 + k) <<< ((52 : Int32).toInt64 &&& 63) = lN ((1012 + k) * 2 ^ 52) := by decide +kernel
theorem toInt64_lN (x : UInt64) : x.toInt64 = lN x.toNat := by
  unfold lN
  rw [← UInt64.toInt64_ofNat', UInt64.ofNat_toNat]
theorem dn_bits {c : Nat} {q : Int} (h : dnok c q) (h1 : -63 ≤ q) (h2 : q ≤ -52) : lN (1023 - (-52 - q).toNat) <<< ((52 : Int32).toInt64 &&& 63) + lN (c - 2 ^ 52) = (dn c q).toInt64 := by
  rw [toInt64_lN, dn_toNat h]
  have e : 1023 - (-52 - q).toNat = 1012 + (q + 63).toNat := by omega
  rw [e, lN_shl _ (by omega), lN_add, show 1012 + (q + 63).toNat = (q + 1075).toNat by omega]
/-- what a share is -/
def shOK (x : UInt64) : Prop := x = FP.dconst0 ∨ ∃ (c : Nat) (q : Int), dnok c q ∧ -63 ≤ q ∧ q ≤ -52 ∧ x = dn c q
theorem shOK_1 : shOK FP.dconst1 := Or.inr ⟨2 ^ 52, -52, ⟨by decide, by decide, by decide, by decide⟩, by decide, by decide, dn_of val_one⟩
theorem shOK_n {x : UInt64} (h : shOK x) : vf_n64 x := by
  rcases h with rfl | ⟨c, q, h, -, -, rfl⟩
  · exact n64_val val_zero
  · exact n64_val (dn_val h)
theorem dcmp_self {x : UInt64} {c : Nat} {q : Int} (hv : FP.Core.val64 x = .fin false c q) : FP.dcmp x x = some .eq := by
  show FP.Core.order (FP.Core.val64 x) (FP.Core.val64 x) = some .eq
  rw [hv]
  show some (compare _ _) = some .eq
  rw [Int.compare_eq_eq.mpr rfl]
theorem shOK_self {x : UInt64} (h : shOK x) : FP.dcmp x x = some .eq := by
  rcases h with rfl | ⟨c, q, h, -, -, rfl⟩
  · exact cmp00
  · exact dcmp_self (dn_val h)
/-- the quotient of two whole numbers -/
theorem i2d_fin (a : Nat) (ha : a < 2 ^ 31) : ∃ (c : Nat) (q : Int), FP.Core.val64 (FP.i2d (nI a)) = .fin false c q ∧ c * 2 ^ q.toNat = a * 2 ^ (-q).toNat := by
  have hw := FP.Core.i2d_int (nI a)
  rw [nI_toInt ha] at hw
  unfold FP.Core.DInt at hw
  have hv : FP.Core.val64 (FP.Core.i2d (nI a)) = FP.Core.roundRatio FP.Core.b64 false a 1 0 := by
    rw [FP.Core.val64_i2d, nI_toInt ha]
    unfold FP.Core.ofInt
    rw [decide_eq_false (by omega), Int.natAbs_natCast]
    rfl
  obtain ⟨c, q, hf, he⟩ := FP.Core.natFit FP.Core.good_b64 FP.Core.wide_b64 false (n := a) (by rw [b64_p]; omega)
  have hx := FP.Core.roundRatio_exact (A := a) (B := 1) (e := 0) FP.Core.good_b64 (by decide) hf he
  refine ⟨c, q, hv.trans hx, ?_⟩
  rw [show (0 - q).toNat = (-q).toNat by omega, show (q - 0).toNat = q.toNat by omega, Nat.mul_one] at he
  exact he.symm
theorem ratio_ok {a b : Nat} (h0 : 0 < a) (hab : a ≤ b) (hb : b ≤ 1023) : ∃ (c : Nat) (q : Int), dnok c q ∧ -63 ≤ q ∧ q ≤ -52 ∧ FP.Core.roundRatio FP.Core.b64 false a b 0 = .fin false c q := by
  have hb0 : 0 < b := by omega
  obtain ⟨s1, s2⟩ := FP.Core.leading_spec h0 hb0
  have hk1 : -10 ≤ FP.Core.leading a b := by
    have hnb : ¬ FP.Core.Below a b (-10) := by
      intro hbl
      unfold FP.Core.Below at hbl
      rw [show (-(-10 : Int)).toNat = 10 by decide, show (-10 : Int).toNat = 0 by decide] at hbl
      omega
    have := FP.Core.lt_of_below hnb s2
    omega
  have hk2 : FP.Core.leading a b ≤ 0 := by
    have := FP.Core.lt_of_below (A := a) (B := b) s1 (b := 1) (by
      unfold FP.Core.Below
      rw [show (-(1 : Int)).toNat = 0 by decide, show (1 : Int).toNat = 1 by decide]
      omega)
    omega
  have hq : FP.Core.quantum FP.Core.b64 a b 0 = FP.Core.leading a b - 52 := by
    unfold FP.Core.quantum
    rw [b64_qmin, b64_p]
    omega
  have hdp := FP.Core.unitsDen_pos hb0 0 (FP.Core.leading a b - 52)
  have n1 : 2 ^ 52 ≤ FP.Core.nearest (FP.Core.unitsNum a 0 (FP.Core.leading a b - 52)) (FP.Core.unitsDen b 0 (FP.Core.leading a b - 52)) := by
    refine FP.Core.nearest_ge hdp (Nat.le_of_not_lt (fun z => s1 ?_))
    have := (FP.Core.units_below a b 0 (FP.Core.leading a b - 52) 52).mp z
    rwa [show FP.Core.leading a b - 52 - 0 + ((52 : Nat) : Int) = FP.Core.leading a b by omega] at this
  have n2 : FP.Core.nearest (FP.Core.unitsNum a 0 (FP.Core.leading a b - 52)) (FP.Core.unitsDen b 0 (FP.Core.leading a b - 52)) ≤ 2 ^ 53 := by
    refine FP.Core.nearest_le hdp (Nat.le_of_lt ((FP.Core.units_below a b 0 (FP.Core.leading a b - 52) 53).mpr ?_))
    rwa [show FP.Core.leading a b - 52 - 0 + ((53 : Nat) : Int) = FP.Core.leading a b + 1 by omega]
  -- a leading digit of 2^0 means a = b
  have n3 : FP.Core.leading a b = 0 → FP.Core.nearest (FP.Core.unitsNum a 0 (FP.Core.leading a b - 52)) (FP.Core.unitsDen b 0 (FP.Core.leading a b - 52)) < 2 ^ 53 := by
    intro hz
    have hba : b ≤ a := by
      refine Nat.le_of_not_lt (fun z => s1 ?_)
      rw [hz]
      unfold FP.Core.Below
      simpa using z
    have : a = b := by omega
    subst this
    rw [hz]
    unfold FP.Core.unitsNum FP.Core.unitsDen
    rw [show (0 - (0 - 52) : Int).toNat = 52 by decide, show (0 - 52 - 0 : Int).toNat = 0 by decide, Nat.pow_zero, Nat.mul_one, Nat.mul_comm, FP.Core.nearest_exact _ hb0]
    decide
  unfold FP.Core.roundRatio
  rw [if_neg (by omega), hq]
  unfold FP.Core.roundAt FP.Core.settle
  rw [b64_p]
  generalize FP.Core.nearest (FP.Core.unitsNum a 0 (FP.Core.leading a b - 52)) (FP.Core.unitsDen b 0 (FP.Core.leading a b - 52)) = N at n1 n2 n3
  by_cases hN : N < 2 ^ 53
  · rw [if_pos hN]
    unfold FP.Core.bound
    rw [if_pos (by rw [b64_qmax]; omega)]
    exact ⟨N, _, ⟨n1, hN, by omega, by omega⟩, by omega, by omega, rfl⟩
  · rw [if_neg hN]
    unfold FP.Core.bound
    rw [if_pos (by rw [b64_qmax]; omega), b64_tails]
    refine ⟨2 ^ 52, _, ⟨by decide, by decide, by omega, by omega⟩, by omega, ?_, rfl⟩
    have : ¬ FP.Core.leading a b = 0 := fun z => hN (n3 z)
    omega
theorem ddiv_val {a b : Nat} (ha : a < 2 ^ 31) (hb : b < 2 ^ 31) (hb0 : 0 < b) : FP.Core.val64 (FP.ddiv (FP.i2d (nI a)) (FP.i2d (nI b))) = FP.Core.roundRatio FP.Core.b64 false a b 0 := by
  obtain ⟨c, q, h1, h2⟩ := i2d_fin a ha
  obtain ⟨d, r, h3, h4⟩ := i2d_fin b hb
  show FP.Core.val64 (FP.Core.ddiv (FP.i2d (nI a)) (FP.i2d (nI b))) = _
  rw [FP.Core.val64_ddiv, h1, h3]
  have hd : 0 < d := by
    rcases Nat.eq_zero_or_pos d with z | z
    · rw [z, Nat.zero_mul] at h4
      have := Nat.mul_eq_zero.mp h4.symm
      have p := Nat.two_pow_pos (-r).toNat
      omega
    · exact z
  show (if d = 0 then (if c = 0 then FP.Core.Datum.nan else .inf (false != false)) else FP.Core.roundRatio FP.Core.b64 (false != false) c d (q - r)) = _
  rw [if_neg (by omega)]
  refine FP.Core.roundRatio_congr (s := false) hd hb0 ?_
  rw [show (q - r - 0).toNat = (q - r).toNat by omega, show (0 - (q - r)).toNat = (r - q).toNat by omega]
  -- c b 2^(q-r) = a d 2^(r-q)
  have p1 := Nat.two_pow_pos (-q).toNat
  have p2 := Nat.two_pow_pos (-r).toNat
  have p3 := Nat.two_pow_pos r.toNat
  have p4 := Nat.two_pow_pos q.toNat
  have e1 : (2 : Nat) ^ (q - r).toNat * (2 ^ r.toNat * 2 ^ (-q).toNat) = 2 ^ (r - q).toNat * (2 ^ q.toNat * 2 ^ (-r).toNat) := by
    rw [← Nat.pow_add, ← Nat.pow_add, ← Nat.pow_add, ← Nat.pow_add]
    congr 1
    omega
  refine Nat.eq_of_mul_eq_mul_right (Nat.mul_pos p4 (Nat.mul_pos p2 (Nat.mul_pos p3 p1))) ?_
  generalize (2 : Nat) ^ (q - r).toNat = A1 at e1 ⊢
  generalize (2 : Nat) ^ (r - q).toNat = A2 at e1 ⊢
  generalize (2 : Nat) ^ (-q).toNat = Q1 at h2 e1 p1 ⊢
  generalize (2 : Nat) ^ q.toNat = Q2 at h2 e1 p4 ⊢
  generalize (2 : Nat) ^ (-r).toNat = R1 at h4 e1 p2 ⊢
  generalize (2 : Nat) ^ r.toNat = R2 at h4 e1 p3 ⊢
  calc c * b * A1 * (Q2 * (R1 * (R2 * Q1))) = (c * Q2) * (b * R1) * (A1 * (R2 * Q1)) := by simp only [Nat.mul_assoc, Nat.mul_left_comm, Nat.mul_comm]
    _ = (a * Q1) * (d * R2) * (A2 * (Q2 * R1)) := by rw [h2, h4, e1]
    _ = a * d * A2 * (Q2 * (R1 * (R2 * Q1))) := by simp only [Nat.mul_assoc, Nat.mul_left_comm, Nat.mul_comm]
theorem share_ok {a b : Nat} (hab : a ≤ b) (hb : b ≤ 1023) (hb0 : 0 < b) : vf_n64 (FP.ddiv (FP.i2d (nI a)) (FP.i2d (nI b))) ∧ shOK (FP.ddiv (FP.i2d (nI a)) (FP.i2d (nI b))) := by
  have hv := ddiv_val (a := a) (b := b) (by omega) (by omega) hb0
  rcases Nat.eq_zero_or_pos a with z | z
  · subst z
    have e : FP.Core.roundRatio FP.Core.b64 false 0 b 0 = .fin false 0 (-1074) := by
      unfold FP.Core.roundRatio
      rw [if_pos rfl, b64_qmin]
    rw [e] at hv
    exact ⟨n64_val hv, Or.inl ((dn_of hv).trans (dn_of val_zero).symm)⟩
  · obtain ⟨c, q, h1, h2, h3, e⟩ := ratio_ok z hab hb
    rw [e] at hv
    exact ⟨n64_val hv, Or.inr ⟨c, q, h1, h2, h3, dn_of hv⟩⟩
