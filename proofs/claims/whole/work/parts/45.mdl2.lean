/-! making room: the reference counts what moves, the class what stays -/
def gU (P : Nat → Nat → Int32) (j c : Nat) : Int := if c < 4 ∧ P j 5 = nI c then 1 else 0
def nS (P : Nat → Nat → Int32) : Nat → Int
  | 0 => 0
  | q + 1 => nS P q + (if P q 5 = -1 then 0 else 1)
section MV
variable {n : Nat} {P : Nat → Nat → Int32} {A : Nat → Nat → Bool} {al : Nat → Int32}
theorem nS_rng : ∀ q, 0 ≤ nS P q ∧ nS P q ≤ q
  | 0 => by rw [nS]; omega
  | q + 1 => by
    have := nS_rng q
    rw [nS]
    split <;> omega
theorem gU_le (j c : Nat) : 0 ≤ gU P j c ∧ gU P j c ≤ (if P j 5 = -1 then 0 else 1) := by
  unfold gU
  by_cases h : c < 4 ∧ P j 5 = nI c
  · rw [if_pos h, if_neg (by rw [h.2]; exact nI_m1 (by omega))]
    omega
  · rw [if_neg h]
    split <;> omega
theorem scU_rng (u : Nat → Nat) : ∀ q, 0 ≤ scS (gU P) q u ∧ scS (gU P) q u ≤ nS P q
  | 0 => by rw [scS, nS]; omega
  | q + 1 => by
    have h1 := scU_rng u q
    have h2 := gU_le (P := P) q (u q)
    rw [scS, nS]
    omega
theorem scU_mono (u : Nat → Nat) {q : Nat} : ∀ k, nS P q - scS (gU P) q u ≤ nS P (q + k) - scS (gU P) (q + k) u
  | 0 => Int.le_refl _
  | k + 1 => by
    have h1 := scU_mono u (q := q) k
    have h2 := gU_le (P := P) (q + k) (u (q + k))
    show _ ≤ nS P (q + k + 1) - scS (gU P) (q + k + 1) u
    rw [scS, nS]
    omega
theorem mWo1_ti (hn : n ≤ 8) (u : Nat → Nat) : ∀ q, q ≤ n → (∀ j, j < q → ¬ P j 5 = -1 → u j < 4) → (mWo 1 P u q).toInt = nS P q - scS (gU P) q u
  | 0, _, _ => by unfold mWo; rw [gF_end (Nat.le_refl 0), scS, nS, ti_0]; rfl
  | q + 1, hq, hu => by
    have h1 := mWo1_ti hn u q (by omega) (fun j hj => hu j (by omega))
    have h2 := scU_rng (P := P) u q
    have h3 := nS_rng (P := P) q
    unfold mWo at h1 ⊢
    rw [gF_snoc q 0 0 (by omega), scS, nS]
    generalize gF q (mWoF 1 P u) 0 0 = a at h1 ⊢
    unfold mWoF
    rw [if_neg (show ¬ (1 : Nat) = 0 by decide)]
    by_cases h4 : P q 5 = -1
    · have e : gU P q (u q) = 0 := by
        have := gU_le (P := P) q (u q)
        rw [if_pos h4] at this
        omega
      rw [if_neg (fun z => z.1 h4), if_pos h4, e, h1]
      omega
    · have h5 := hu q (by omega) h4
      rw [if_neg h4]
      by_cases h6 : nI (u q) = P q 5
      · have e : gU P q (u q) = 1 := by unfold gU; rw [if_pos ⟨h5, h6.symm⟩]
        rw [if_neg (fun z => z.2 h6), e, h1]
        omega
      · have e : gU P q (u q) = 0 := by unfold gU; rw [if_neg (fun z => h6 z.2.symm)]
        rw [if_pos ⟨h4, h6⟩, e, ti_add (by rw [ti_1]; omega) (by rw [ti_1]; omega), ti_1, h1]
        omega
def RelR (n : Nat) (P : Nat → Nat → Int32) (z : Int × Option (Nat → Nat)) (st : St2) : Prop := (z.2 = none → z.1 = -1 ∧ st.1 = -1) ∧ ∀ u, z.2 = some u → 0 ≤ z.1 ∧ z.1 ≤ nS P n ∧ st.1.toInt = nS P n - z.1 ∧ ∀ j, j < n → st.2 j = nI (u j)
theorem m1_ti : (-1 : Int32).toInt = -1 := by decide
theorem RelR_m1 {z : Int × Option (Nat → Nat)} {st : St2} (h : RelR n P z st) : (st.1 = -1 ↔ z.2 = none) := by
  obtain ⟨h1, h2⟩ := h
  constructor
  · intro q
    cases hz : z.2 with
    | none => rfl
    | some u =>
      obtain ⟨a, b, c, -⟩ := h2 u hz
      rw [q, m1_ti] at c
      omega
  · intro q; exact (h1 q).2
theorem mCan1 {t : Nat → Nat} {bs : Int32} {q : Nat} : mCan 1 n P t bs q = (decide (bs = -1) || decide (mWo 1 P t q < bs)) := by
  unfold mCan
  by_cases h : bs = -1
  · rw [if_pos (Or.inr h), decide_eq_true h]; rfl
  · rw [if_neg (by simp [h]), if_neg (show ¬ (1 : Nat) = 0 by decide), decide_eq_false h]; rfl
theorem srM1_fold (hn : n ≤ 8) (hbk : bd_ok n P) (hA : ∀ i, i < n → ∀ c, c < 5 → A i c = mBt (al i) c) (hA4 : ∀ i, i < n → ¬ P i 5 = -1 → A i 4 = false) : ∀ (d i : Nat), i + d = n → ∀ (t : Nat → Nat) (z : Int × Option (Nat → Nat)) (st : St2), (∀ j, j < i → t j < 5 ∧ A j (t j) = true) → RelR n P z st →
    RelR n P ((cps A P d i t).foldl (fB (scS (gU P) n)) z) (srM 1 n al P d i t st) := by
  have lt4 : ∀ (u : Nat → Nat) (q : Nat), q ≤ n → (∀ j, j < q → u j < 5 ∧ A j (u j) = true) → ∀ j, j < q → ¬ P j 5 = -1 → u j < 4 := by
    intro u q hq hu j hj h5
    obtain ⟨h1, h2⟩ := hu j hj
    rcases Nat.lt_or_ge (u j) 4 with z | z
    · exact z
    · rw [show u j = 4 by omega, hA4 j (by omega) h5] at h2
      exact absurd h2 (by decide)
  intro d
  induction d with
  | zero =>
    intro i hid t z st ht hr
    have hin : i = n := by omega
    subst hin
    rw [srM, cps, List.foldl_cons, List.foldl_nil]
    have h1 := mWo1_ti hn t i (Nat.le_refl _) (lt4 t i (Nat.le_refl _) ht)
    have h2 := scU_rng (P := P) t i
    unfold mLk fB
    rw [if_neg (show ¬ (1 : Nat) = 2 by decide), mCan1]
    have hiff : (decide (st.1 = -1) || decide (mWo 1 P t i < st.1)) = decide (z.1 < scS (gU P) i t) := by
      rw [Bool.eq_iff_iff, Bool.or_eq_true, decide_eq_true_iff, decide_eq_true_iff, decide_eq_true_iff, RelR_m1 hr, Int32.lt_iff_toInt_lt, h1]
      cases hz : z.2 with
      | none =>
        have := (hr.1 hz).1
        constructor
        · intro _; omega
        · intro _; exact Or.inl rfl
      | some u =>
        obtain ⟨a, b, c, -⟩ := hr.2 u hz
        constructor
        · rintro (q | q)
          · exact absurd q (by simp)
          · omega
        · intro q; exact Or.inr (by omega)
    rw [hiff]
    by_cases hlt : z.1 < scS (gU P) i t
    · rw [decide_eq_true hlt, if_pos hlt, if_pos rfl]
      refine ⟨fun q => absurd q (by simp), fun u hu => ?_⟩
      have hut : t = u := Option.some.inj hu
      subst hut
      refine ⟨h2.1, h2.2, h1, fun j hj => ?_⟩
      show plS i t st.2 j = nI (t j)
      unfold plS
      rw [if_pos hj]
    · rw [decide_eq_false hlt, if_neg hlt, if_neg (show ¬ false = true by decide)]
      exact hr
  | succ d ih =>
    intro i hid t z st ht hr
    have hi : i < n := by omega
    rw [srM, cpk_all]
    have loop : ∀ (r c : Nat), c + r = 5 → ∀ (z : Int × Option (Nat → Nat)) (st : St2), RelR n P z st → RelR n P ((cpk A P d i t r c).foldl (fB (scS (gU P) n)) z) (srL (fun t' z' => srM 1 n al P d (i + 1) t' z') 1 n al P i r c t st) := by
      intro r
      induction r with
      | zero => intro c _ z st hr; rw [cpk, srL]; exact hr
      | succ r ihr =>
        intro c hc z st hr
        rw [srL, cpk, mFit_fe hbk hi (hA i hi c (by omega)), List.foldl_append]
        cases hf : feB A P i c t with
        | false =>
          rw [Bool.false_and, if_neg (by decide), if_neg (by decide), List.foldl_nil]
          exact ihr (c + 1) (by omega) z st hr
        | true =>
          have ht5 : ∀ j, j < i + 1 → updN t i c j < 5 ∧ A j (updN t i c j) = true := fun j hj => by
            by_cases hji : j = i
            · subst hji; rw [updN_eq]; exact ⟨by omega, (feB_iff.mp hf).1⟩
            · rw [updN_ne hji]; exact ht j (by omega)
          rw [Bool.true_and, if_pos rfl]
          cases hcan : mCan 1 n P (updN t i c) st.1 (i + 1) with
          | true =>
            rw [if_pos rfl]
            exact ihr (c + 1) (by omega) _ _ (ih (i + 1) (by omega) _ z st ht5 hr)
          | false =>
            rw [if_neg (by decide), fB_none (cps A P d (i + 1) (updN t i c)) z (fun u hu => ?_)]
            · exact ihr (c + 1) (by omega) z st hr
            · obtain ⟨q1, q2⟩ := cps_pre d (i + 1) _ u hu
              rw [mCan1, Bool.or_eq_false_iff, decide_eq_false_iff_not, decide_eq_false_iff_not, RelR_m1 hr, Int32.lt_iff_toInt_lt] at hcan
              obtain ⟨hc1, hc2⟩ := hcan
              cases hz : z.2 with
              | none => exact absurd hz hc1
              | some u0 =>
                obtain ⟨a, b, c9, -⟩ := hr.2 u0 hz
                have w1 := mWo1_ti hn (updN t i c) (i + 1) (by omega) (lt4 _ _ (by omega) ht5)
                have w2 := scU_mono (P := P) u (q := i + 1) d
                rw [scS_congr (i + 1) u (updN t i c) q1, show i + 1 + d = n by omega] at w2
                omega
    exact loop 5 0 rfl z st hr
/-! counting -/
theorem srM2_count (hbk : bd_ok n P) (hA : ∀ i, i < n → ∀ c, c < 5 → A i c = mBt (al i) c) : ∀ (d i : Nat), i + d = n → ∀ (t : Nat → Nat) (st : St2), (srM 2 n al P d i t st).1 = st.1 + nI (cps A P d i t).length := by
  intro d
  induction d with
  | zero =>
    intro i hid t st
    rw [srM, cps]
    unfold mLk
    rw [if_pos rfl]
    rfl
  | succ d ih =>
    intro i hid t st
    have hi : i < n := by omega
    rw [srM, cpk_all]
    have loop : ∀ (r c : Nat), c + r = 5 → ∀ (st : St2), (srL (fun t' z' => srM 2 n al P d (i + 1) t' z') 2 n al P i r c t st).1 = st.1 + nI (cpk A P d i t r c).length := by
      intro r
      induction r with
      | zero => intro c _ st; rw [cpk, srL]; exact (Int32.add_zero _).symm
      | succ r ihr =>
        intro c hc st
        have hcan : mCan 2 n P (updN t i c) st.1 (i + 1) = true := by unfold mCan; rw [if_pos (Or.inl rfl)]
        rw [srL, cpk, mFit_fe hbk hi (hA i hi c (by omega)), hcan, Bool.and_true, List.length_append]
        cases hf : feB A P i c t with
        | false =>
          rw [if_neg (by decide), if_neg (by decide), ihr (c + 1) (by omega), List.length_nil, Nat.zero_add]
        | true =>
          rw [if_pos rfl, if_pos rfl, ihr (c + 1) (by omega), ih (i + 1) (by omega), Int32.add_assoc, nI_add]
    exact loop 5 0 rfl st
end MV
