/-! THE CLASS'S SEARCH finds the best of all plans -/
def cd (c : Nat) : Int32 := if c < 4 then nI c else -1
def gG (aG : Nat → Int32) (j c : Nat) : Int := if c < 4 then (aG (j * 4 + c)).toInt else 0
/-- what a search of the class starts from -/
def skH (n : Nat) (P : Nat → Nat → Int32) (A : Nat → Nat → Bool) (aO aC aA aM aG aT aH : Nat → Int32) (kS : Int32) : Prop :=
  n ≤ 8 ∧ (∀ j, j < n → aO j = gMk n P j) ∧ (∀ j, j < n → ∀ k, k < 4 → aC (j * 4 + k) = gLc n aO P j (nI k)) ∧ (∀ j, j < n → ∀ k, k < 32 → bt (aA j) k = (decide (k < 4) && A j k)) ∧ (∀ j, j < n → ∀ k, k < 4 → A j k = true → gOp n P j (nI k) = true) ∧ (∀ j, j < n → A j 4 = decide (¬ aM j = 0)) ∧ (∀ j, j < n → ∀ k, k < 4 → 0 ≤ (aG (j * 4 + k)).toInt ∧ (aG (j * 4 + k)).toInt ≤ 99) ∧ topOk n aA aG kS aT aH
def Rb (n : Nat) (A : Nat → Nat → Bool) (P : Nat → Nat → Int32) (i : Nat) (t : Nat → Nat) (blk : Int32) : Prop :=
  ∀ j, i ≤ j → j < n → ∀ q, q < 4 → A j q = true → (bt blk (j * 4 + q) = true ↔ ∃ i', i' < i ∧ ¬ t i' = 4 ∧ clP P i' (t i') j q = true)
theorem Rb_0 (n : Nat) (A : Nat → Nat → Bool) (P : Nat → Nat → Int32) (t : Nat → Nat) : Rb n A P 0 t 0 := by
  intro j _ _ q _ _
  rw [b_0]
  constructor
  · intro h; exact absurd h (by decide)
  · rintro ⟨i', h, -⟩; omega
section CLS
variable {n : Nat} {P : Nat → Nat → Int32} {A : Nat → Nat → Bool} {aO aC aA aM aG aT aH : Nat → Int32} {kS : Int32}
theorem hB_open (h : skH n P A aO aC aA aM aG aT aH kS) {j k : Nat} (hj : j < n) (hk : k < 4) : hB (aO j) (nI k) = gOp n P j (nI k) := by
  obtain ⟨h8, hO, -⟩ := h
  rw [hB_bt _ (by omega), hO j hj, gMk_bt (by omega), decide_eq_true hk]
  rfl
theorem fr_fe (h : skH n P A aO aC aA aM aG aT aH kS) {i k : Nat} {t : Nat → Nat} {blk : Int32} (hi : i < n) (hk : k < 4) (hb : Rb n A P i t blk) : hB (skFr aA i blk) (nI k) = feB A P i k t := by
  obtain ⟨h8, hO, hC, hA, hAO, hM, hG, hT⟩ := h
  rw [hB_bt _ (by omega), skFr_bt (by omega), hA i hi k (by omega), decide_eq_true hk, Bool.true_and]
  cases ha : A i k with
  | false =>
    rw [Bool.false_and]
    symm
    rw [← Bool.not_eq_true, feB_iff, ha]
    simp
  | true =>
    rw [Bool.true_and]
    have hb2 := hb i (Nat.le_refl i) hi k hk ha
    cases hx : bt blk (i * 4 + k) with
    | true =>
      obtain ⟨i', e1, e2, e3⟩ := hb2.mp hx
      symm
      rw [Bool.not_true, ← Bool.not_eq_true, feB_iff]
      rintro ⟨-, q⟩
      rcases q with q | q
      · omega
      · rcases q i' e1 with z | z
        · exact e2 z
        · rw [e3] at z; exact absurd z (by decide)
    | false =>
      symm
      rw [Bool.not_false, feB_iff]
      refine ⟨ha, Or.inr (fun j hj => ?_)⟩
      by_cases h4 : t j = 4
      · exact Or.inl h4
      · refine Or.inr ?_
        cases hc : clP P j (t j) i k with
        | false => rfl
        | true => rw [hb2.mpr ⟨j, hj, h4, hc⟩] at hx; exact absurd hx (by decide)
theorem Rb_k (h : skH n P A aO aC aA aM aG aT aH kS) {i k : Nat} {t : Nat → Nat} {blk : Int32} (hi : i < n) (hk : k < 4) (ha : A i k = true) (hb : Rb n A P i t blk) : Rb n A P (i + 1) (updN t i k) (blk ||| (aC (i * 4 + k) &&& kS)) ∧ (blk ||| (aC (i * 4 + k) &&& kS) = blk → ∀ j, i < j → j < n → ∀ q, q < 4 → A j q = true → clP P i k j q = true → bt blk (j * 4 + q) = true) := by
  have hop := fun {j q : Nat} (hj : j < n) (hq : q < 4) => hB_open h hj hq
  obtain ⟨h8, hO, hC, hA, hAO, hM, hG, hT⟩ := h
  have key : ∀ j, i < j → j < n → ∀ q, q < 4 → A j q = true → bt (aC (i * 4 + k) &&& kS) (j * 4 + q) = clP P i k j q := by
    intro j h1 h2 q hq haj
    have hs : j * 4 + q < 32 := by omega
    rw [b_and, hC i hi k hk, gLc_bt h8 hi hs, hT.1, topS_bt h8 hs (fun j hj k hk => by
      rcases Nat.lt_or_ge k 32 with z | z
      · rw [hA j hj k z, decide_eq_false (by omega)]; rfl
      · exact b_big z) n 0 (by omega)]
    rw [show (j * 4 + q) / 4 = j by omega, show (j * 4 + q) % 4 = q by omega, hA j h2 q (by omega), haj, decide_eq_true hq, decide_eq_true (show i < j ∧ j < n from ⟨h1, h2⟩), decide_eq_true (show 0 ≤ j ∧ j < n from ⟨Nat.zero_le j, h2⟩), hop hi hk, hop h2 hq, hAO i hi k hk ha, hAO j h2 q hq haj]
    simp [clP]
  refine ⟨fun j h1 h2 q hq haj => ?_, fun e j h1 h2 q hq haj hc => ?_⟩
  · rw [b_or, key j (by omega) h2 q hq haj, Bool.or_eq_true, hb j (by omega) h2 q hq haj]
    constructor
    · rintro (⟨i', e1, e2, e3⟩ | e)
      · exact ⟨i', by omega, by rw [updN_ne (by omega)]; exact e2, by rw [updN_ne (by omega)]; exact e3⟩
      · exact ⟨i, by omega, by rw [updN_eq]; omega, by rw [updN_eq]; exact e⟩
    · rintro ⟨i', e1, e2, e3⟩
      by_cases hii : i' = i
      · subst hii
        rw [updN_eq] at e3
        exact Or.inr e3
      · rw [updN_ne hii] at e2 e3
        exact Or.inl ⟨i', by omega, e2, e3⟩
  · have h3 := congrArg (fun x => bt x (j * 4 + q)) e
    simp only [b_or, key j h1 h2 q hq haj, hc, Bool.or_true] at h3
    exact h3.symm
theorem Rb_4 {i : Nat} {t : Nat → Nat} {blk : Int32} (hb : Rb n A P i t blk) : Rb n A P (i + 1) (updN t i 4) blk := by
  intro j h1 h2 q hq haj
  rw [hb j (by omega) h2 q hq haj]
  constructor
  · rintro ⟨i', e1, e2, e3⟩
    exact ⟨i', by omega, by rw [updN_ne (by omega)]; exact e2, by rw [updN_ne (by omega)]; exact e3⟩
  · rintro ⟨i', e1, e2, e3⟩
    by_cases hii : i' = i
    · subst hii
      rw [updN_eq] at e2
      exact absurd rfl e2
    · rw [updN_ne hii] at e2 e3
      exact ⟨i', by omega, e2, e3⟩
theorem gMG_ge (h : skH n P A aO aC aA aM aG aT aH kS) {i : Nat} (hi : i < n) : 0 ≤ (gMG aA aG i).toInt ∧ (gMG aA aG i).toInt ≤ 99 ∧ ∀ k, k < 4 → A i k = true → (aG (i * 4 + k)).toInt ≤ (gMG aA aG i).toInt := by
  obtain ⟨h8, hO, hC, hA, hAO, hM, hG, hT⟩ := h
  have step : ∀ (k : Nat) (a : Int32), k < 4 → 0 ≤ a.toInt → a.toInt ≤ 99 → 0 ≤ (gMGF aA aG i k a).toInt ∧ (gMGF aA aG i k a).toInt ≤ 99 ∧ a.toInt ≤ (gMGF aA aG i k a).toInt ∧ (A i k = true → (aG (i * 4 + k)).toInt ≤ (gMGF aA aG i k a).toInt) := by
    intro k a hk h1 h2
    have h3 := hG i hi k hk
    unfold gMGF
    cases hb : hB (aA i) (nI k) with
    | true =>
      rw [if_pos rfl, ti_iMax]
      exact ⟨by omega, by omega, by omega, fun _ => by omega⟩
    | false =>
      rw [if_neg (by decide)]
      refine ⟨h1, h2, Int.le_refl _, fun ha => ?_⟩
      rw [hB_bt _ (by omega), hA i hi k (by omega), ha, decide_eq_true hk] at hb
      exact absurd hb (by decide)
  unfold gMG
  rw [gF4]
  obtain ⟨a1, a2, a3, a4⟩ := step 0 0 (by omega) (by rw [ti_0]; omega) (by rw [ti_0]; omega)
  obtain ⟨b1, b2, b3, b4⟩ := step 1 _ (by omega) a1 a2
  obtain ⟨c1, c2, c3, c4⟩ := step 2 _ (by omega) b1 b2
  obtain ⟨d1, d2, d3, d4⟩ := step 3 _ (by omega) c1 c2
  refine ⟨d1, d2, fun k hk ha => ?_⟩
  rcases (show k = 0 ∨ k = 1 ∨ k = 2 ∨ k = 3 by omega) with rfl | rfl | rfl | rfl
  · have := a4 ha; omega
  · have := b4 ha; omega
  · have := c4 ha; omega
  · exact d4 ha
theorem topH_rng (h : skH n P A aO aC aA aM aG aT aH kS) : ∀ (k i : Nat), i + k = n → 0 ≤ (topH (gMG aA aG) n i).toInt ∧ (topH (gMG aA aG) n i).toInt ≤ 99 * k
  | 0, i, hk => by
    rw [topH_end (by omega), ti_0]
    omega
  | k + 1, i, hk => by
    obtain ⟨h1, h2⟩ := topH_rng h k (i + 1) (by omega)
    obtain ⟨h3, h4, -⟩ := gMG_ge h (i := i) (by omega)
    have h8 := h.1
    rw [topH_step (by omega), ti_add (by omega) (by omega)]
    omega
theorem topH_hope (h : skH n P A aO aC aA aM aG aT aH kS) {u : Nat → Nat} : ∀ (k i : Nat), i + k = n → (∀ j, i ≤ j → j < n → u j < 5 ∧ A j (u j) = true) → scS (gG aG) n u ≤ scS (gG aG) i u + (topH (gMG aA aG) n i).toInt
  | 0, i, hk, hu => by
    rw [topH_end (by omega), ti_0, show n = i by omega]
    omega
  | k + 1, i, hk, hu => by
    have h1 := topH_hope h k (i + 1) (by omega) (fun j h1 h2 => hu j (by omega) h2)
    obtain ⟨r1, r2⟩ := topH_rng h k (i + 1) (by omega)
    obtain ⟨h3, h4, h5⟩ := gMG_ge h (i := i) (by omega)
    have h8 := h.1
    rw [topH_step (by omega), ti_add (by omega) (by omega)]
    rw [scS] at h1
    obtain ⟨q1, q2⟩ := hu i (Nat.le_refl i) (by omega)
    have h6 : gG aG i (u i) ≤ (gMG aA aG i).toInt := by
      unfold gG
      split
      · rename_i h9; exact h5 _ h9 q2
      · exact h3
    omega
theorem scS_rng (h : skH n P A aO aC aA aM aG aT aH kS) (u : Nat → Nat) : ∀ m, m ≤ n → 0 ≤ scS (gG aG) m u ∧ scS (gG aG) m u ≤ 99 * m
  | 0, _ => by rw [scS]; omega
  | m + 1, hm => by
    obtain ⟨h1, h2⟩ := scS_rng h u m (by omega)
    rw [scS]
    have h3 : 0 ≤ gG aG m (u m) ∧ gG aG m (u m) ≤ 99 := by
      unfold gG
      split
      · rename_i h9; exact h.2.2.2.2.2.2.1 m (by omega) _ h9
      · omega
    omega
end CLS
