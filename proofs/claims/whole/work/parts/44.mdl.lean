/-! THE REFERENCE'S SEARCH is the same fold -/
theorem iMax_comm (a b : Int32) : iMax a b = iMax b a := ti_inj (by rw [ti_iMax, ti_iMax]; omega)
theorem iMin_comm (a b : Int32) : iMin a b = iMin b a := ti_inj (by rw [ti_iMin, ti_iMin]; omega)
theorem gLen_comm (a la b lb : Int32) : gLen a la b lb = gLen b lb a la := by
  unfold gLen
  rw [iMin_comm, iMax_comm a b]
theorem gSh_comm (P : Nat → Nat → Int32) (i : Nat) (c : Int32) (j : Nat) (d : Int32) : gSh P i c j d = gSh P j d i c := by
  unfold gSh
  rw [gLen_comm, gLen_comm (gT P i c)]
theorem gE_congr {n : Nat} {b c : Nat → Bool} (h : ∀ j, j < n → b j = c j) : gE n b 0 = gE n c 0 := by
  rw [Bool.eq_iff_iff, gE_iff n 0 (by omega), gE_iff n 0 (by omega)]
  constructor
  · rintro ⟨j, h1, h2, h3⟩; exact ⟨j, h1, h2, by rw [← h j h2]; exact h3⟩
  · rintro ⟨j, h1, h2, h3⟩; exact ⟨j, h1, h2, by rw [h j h2]; exact h3⟩
theorem mFit_fe {n : Nat} {P : Nat → Nat → Int32} {A : Nat → Nat → Bool} {al : Nat → Int32} {i c : Nat} {t : Nat → Nat} (hbk : bd_ok n P) (hi : i < n) (hA : A i c = mBt (al i) c) : mFit al P (updN t i c) i = feB A P i c t := by
  unfold mFit feB
  rw [updN_eq, hA]
  congr 2
  rw [gE_congr (n := i) (fun j hj => ?_)]
  unfold mFitB clP
  rw [updN_eq, updN_ne (by omega)]
  congr 1
  rw [decide_eq_decide, gSh_comm P j, gSh_posn hbk hi _ (by omega : j < n)]
theorem bt_mBt (x : Int32) {k : Nat} (hk : k < 32) : mBt x k = bt x k := by
  have h0 : bt ((x >>> (nI k &&& 31)) &&& 1) 0 = bt x k := by
    rw [b_and, b_sshr k hk x (by omega), Nat.add_zero, if_pos hk, bt_one 0 (by omega)]
    simp
  have hz : ∀ i, i < 32 → ¬ i = 0 → bt ((x >>> (nI k &&& 31)) &&& 1) i = false := by
    intro i hi h
    rw [b_and, bt_one i hi, decide_eq_false h, Bool.and_false]
  unfold mBt
  cases hb : bt x k with
  | true =>
    rw [decide_eq_true_iff]
    apply b_ext
    intro i hi
    by_cases h : i = 0
    · subst h; rw [h0, hb, bt_one 0 hi]; rfl
    · rw [hz i hi h, bt_one i hi, decide_eq_false h]
  | false =>
    rw [decide_eq_false_iff_not]
    intro q
    have h1 : bt ((x >>> (nI k &&& 31)) &&& 1) 0 = bt 1 0 := by rw [q]
    rw [h0, hb, bt_one 0 (by omega)] at h1
    exact absurd h1 (by decide)
def gW (P : Nat → Nat → Int32) (j c : Nat) : Int := if c < 4 then (P j 4).toInt else 0
theorem scS_gcongr {g g' : Nat → Nat → Int} : ∀ (m : Nat) (u : Nat → Nat), (∀ j, j < m → g j (u j) = g' j (u j)) → scS g m u = scS g' m u
  | 0, _, _ => rfl
  | m + 1, u, h => by rw [scS, scS, scS_gcongr m u (fun j hj => h j (by omega)), h m (by omega)]
section MDL
variable {n : Nat} {P : Nat → Nat → Int32} {A : Nat → Nat → Bool} {al : Nat → Int32}
theorem gF_snoc {f : Nat → Int32 → Int32} {q : Nat} : ∀ (k i : Nat) (a : Int32), i + k = q → gF (q + 1) f i a = f q (gF q f i a)
  | 0, i, a, h => by
    have e : i = q := by omega
    subst e
    rw [gF_step (by omega), gF_end (Nat.le_refl _), gF_end (Nat.le_refl _)]
  | k + 1, i, a, h => by
    have h1 : i < q + 1 := by omega
    have h2 : i < q := by omega
    rw [gF_step h1, gF_step h2, gF_snoc k (i + 1) _ (by omega)]
theorem gW_rng (hbk : bd_ok n P) {j : Nat} (hj : j < n) (c : Nat) : 0 ≤ gW P j c ∧ gW P j c ≤ 99 := by
  obtain ⟨-, -, -, -, h, -⟩ := hbk j hj
  unfold gW
  split <;> omega
theorem scW_rng (hbk : bd_ok n P) (u : Nat → Nat) : ∀ m, m ≤ n → 0 ≤ scS (gW P) m u ∧ scS (gW P) m u ≤ 99 * m
  | 0, _ => by rw [scS]; omega
  | m + 1, hm => by
    obtain ⟨h1, h2⟩ := scW_rng hbk u m (by omega)
    have h3 := gW_rng hbk (j := m) (by omega) (u m)
    rw [scS]
    omega
theorem mWo0_ti (hn : n ≤ 8) (hbk : bd_ok n P) (u : Nat → Nat) : ∀ q, q ≤ n → (∀ j, j < q → u j < 5) → (mWo 0 P u q).toInt = scS (gW P) q u
  | 0, _, _ => by unfold mWo; rw [gF_end (Nat.le_refl 0), scS, ti_0]
  | q + 1, hq, hu => by
    have h1 := mWo0_ti hn hbk u q (by omega) (fun j hj => hu j (by omega))
    have h2 := scW_rng hbk u q (by omega)
    have h3 := gW_rng hbk (j := q) (by omega) (u q)
    have h5 := hu q (by omega)
    unfold mWo at h1 ⊢
    rw [gF_snoc q 0 0 (by omega), scS]
    generalize gF q (mWoF 0 P u) 0 0 = a at h1 ⊢
    unfold mWoF
    rw [if_pos rfl]
    by_cases h4 : u q = 4
    · have e : gW P q (u q) = 0 := by unfold gW; rw [if_neg (by omega)]
      rw [if_pos h4, e, h1, Int.add_zero]
    · have e : gW P q (u q) = (P q 4).toInt := by unfold gW; rw [if_pos (by omega)]
      rw [if_neg h4, ti_add (by omega) (by omega), h1, e]
theorem mWt_ti (hn : n ≤ 8) (hbk : bd_ok n P) (u : Nat → Nat) : ∀ (k q : Nat) (a : Int32), q + k = n → 0 ≤ a.toInt → a.toInt ≤ 99 * q → (gF n (gAWF P) q a).toInt = a.toInt + (gF n (gAWF P) q 0).toInt ∧ 0 ≤ (gF n (gAWF P) q 0).toInt ∧ (gF n (gAWF P) q 0).toInt ≤ 99 * k ∧ scS (gW P) n u ≤ scS (gW P) q u + (gF n (gAWF P) q 0).toInt
  | 0, q, a, hk, h1, h2 => by
    have h9 : n ≤ q := by omega
    have e : q = n := by omega
    subst e
    rw [gF_end h9, gF_end h9, ti_0]
    omega
  | k + 1, q, a, hk, h1, h2 => by
    have h9 : q < n := by omega
    obtain ⟨-, -, -, -, hw, -⟩ := hbk q h9
    have ea : (gAWF P q a).toInt = a.toInt + (P q 4).toInt := by unfold gAWF; rw [ti_add (by omega) (by omega)]
    have e0 : (gAWF P q 0).toInt = (P q 4).toInt := by unfold gAWF; rw [ti_add (by rw [ti_0]; omega) (by rw [ti_0]; omega), ti_0]; omega
    obtain ⟨a1, a2, a3, a4⟩ := mWt_ti hn hbk u k (q + 1) (gAWF P q a) (by omega) (by omega) (by omega)
    obtain ⟨b1, -, -, -⟩ := mWt_ti hn hbk u k (q + 1) (gAWF P q 0) (by omega) (by omega) (by omega)
    rw [gF_step h9, gF_step h9, a1, b1, ea, e0]
    rw [scS] at a4
    have h3 := gW_rng hbk h9 (u q)
    have h6 : gW P q (u q) ≤ (P q 4).toInt := by unfold gW; split <;> omega
    omega
def RelM (n : Nat) (p0 : Nat → Int32) (z : Int × Option (Nat → Nat)) (st : St2) : Prop := st.1.toInt = z.1 ∧ match z.2 with
  | none => ∀ j, j < n → st.2 j = p0 j
  | some u => ∀ j, j < n → st.2 j = nI (u j)
theorem mCan0 {t : Nat → Nat} {bs : Int32} {q : Nat} : mCan 0 n P t bs q = (decide (bs = -1) || decide (bs < mWo 0 P t q + mWt n P q)) := by
  unfold mCan
  by_cases h : bs = -1
  · rw [if_pos (Or.inr h), decide_eq_true h]; rfl
  · rw [if_neg (by simp [h]), if_pos rfl, decide_eq_false h]; rfl
theorem srM0_fold {p0 : Nat → Int32} (hn : n ≤ 8) (hbk : bd_ok n P) (hA : ∀ i, i < n → ∀ c, c < 5 → A i c = mBt (al i) c) : ∀ (d i : Nat), i + d = n → ∀ (t : Nat → Nat) (z : Int × Option (Nat → Nat)) (st : St2), (∀ j, j < i → t j < 5) → -1 ≤ z.1 → RelM n p0 z st →
    RelM n p0 ((cps A P d i t).foldl (fB (scS (gW P) n)) z) (srM 0 n al P d i t st) := by
  intro d
  induction d with
  | zero =>
    intro i hid t z st ht hz hr
    have hin : i = n := by omega
    subst hin
    rw [srM, cps, List.foldl_cons, List.foldl_nil]
    obtain ⟨r1, r2⟩ := hr
    have h1 := mWo0_ti hn hbk t i (Nat.le_refl _) ht
    have h2 := scW_rng hbk t i (Nat.le_refl _)
    have e0 : mWt i P i = 0 := by unfold mWt; rw [gF_end (Nat.le_refl _)]
    unfold mLk fB
    rw [if_neg (show ¬ (0 : Nat) = 2 by decide), mCan0, e0, Int32.add_zero]
    have hiff : (decide (st.1 = -1) || decide (st.1 < mWo 0 P t i)) = decide (z.1 < scS (gW P) i t) := by
      rw [Bool.eq_iff_iff, Bool.or_eq_true, decide_eq_true_iff, decide_eq_true_iff, decide_eq_true_iff, Int32.lt_iff_toInt_lt, r1, h1]
      constructor
      · rintro (q | q)
        · rw [q] at r1
          have : (-1 : Int32).toInt = -1 := by decide
          omega
        · exact q
      · intro q; exact Or.inr q
    rw [hiff]
    by_cases hlt : z.1 < scS (gW P) i t
    · rw [decide_eq_true hlt, if_pos hlt, if_pos rfl]
      refine ⟨h1, fun j hj => ?_⟩
      show plS i t st.2 j = nI (t j)
      unfold plS
      rw [if_pos hj]
    · rw [decide_eq_false hlt, if_neg hlt, if_neg (show ¬ false = true by decide)]
      exact ⟨r1, r2⟩
  | succ d ih =>
    intro i hid t z st ht hz hr
    have hi : i < n := by omega
    rw [srM, cpk_all]
    have loop : ∀ (r c : Nat), c + r = 5 → ∀ (z : Int × Option (Nat → Nat)) (st : St2), -1 ≤ z.1 → RelM n p0 z st → RelM n p0 ((cpk A P d i t r c).foldl (fB (scS (gW P) n)) z) (srL (fun t' z' => srM 0 n al P d (i + 1) t' z') 0 n al P i r c t st) := by
      intro r
      induction r with
      | zero => intro c _ z st _ hr; rw [cpk, srL]; exact hr
      | succ r ihr =>
        intro c hc z st hz hr
        have ht5 : ∀ j, j < i + 1 → updN t i c j < 5 := fun j hj => by
          by_cases hji : j = i
          · subst hji; rw [updN_eq]; omega
          · rw [updN_ne hji]; exact ht j (by omega)
        rw [srL, cpk, mFit_fe hbk hi (hA i hi c (by omega)), List.foldl_append]
        cases hf : feB A P i c t with
        | false =>
          rw [Bool.false_and, if_neg (by decide), if_neg (by decide), List.foldl_nil]
          exact ihr (c + 1) (by omega) z st hz hr
        | true =>
          rw [Bool.true_and, if_pos rfl]
          cases hcan : mCan 0 n P (updN t i c) st.1 (i + 1) with
          | true =>
            rw [if_pos rfl]
            have h1 := (fB_ge (w := scS (gW P) n) (cps A P d (i + 1) (updN t i c)) z).1
            exact ihr (c + 1) (by omega) _ _ (by omega) (ih (i + 1) (by omega) _ z st ht5 hz hr)
          | false =>
            rw [if_neg (by decide), fB_none (cps A P d (i + 1) (updN t i c)) z (fun u hu => ?_)]
            · exact ihr (c + 1) (by omega) z st hz hr
            · obtain ⟨q1, q2⟩ := cps_pre d (i + 1) _ u hu
              rw [mCan0, Bool.or_eq_false_iff, decide_eq_false_iff_not, decide_eq_false_iff_not, Int32.lt_iff_toInt_lt, hr.1] at hcan
              have w1 := mWo0_ti hn hbk (updN t i c) (i + 1) (by omega) ht5
              have w2 := scW_rng hbk (updN t i c) (i + 1) (by omega)
              obtain ⟨-, w3, w4, w5⟩ := mWt_ti hn hbk u (n - (i + 1)) (i + 1) 0 (by omega) (by rw [ti_0]; omega) (by rw [ti_0]; omega)
              rw [scS_congr (i + 1) u (updN t i c) q1] at w5
              have e : mWt n P (i + 1) = gF n (gAWF P) (i + 1) 0 := rfl
              obtain ⟨hc1, hc2⟩ := hcan
              rw [e, ti_add (by omega) (by omega), w1] at hc2
              omega
    exact loop 5 0 rfl z st hz hr
end MDL
