/-! a point comes: labels on its square are dropped, one after the other -/
def mDr (P : Nat → Nat → Int32) (x y : Int32) (q : Nat) : Nat → Nat → Int32 := fun i k => if i < q ∧ k = 5 ∧ gSt P i = true ∧ mHs P i (P i 5) x y = true then -1 else P i k
theorem mDr_k {P : Nat → Nat → Int32} {x y : Int32} {q i k : Nat} (h : ¬ k = 5) : mDr P x y q i k = P i k := by
  unfold mDr
  rw [if_neg (by omega)]
theorem mDr_at {P : Nat → Nat → Int32} {x y : Int32} {q k : Nat} : mDr P x y q q k = P q k := by
  unfold mDr
  rw [if_neg (by omega)]
theorem bd_ok_dr {n q : Nat} {P : Nat → Nat → Int32} {x y : Int32} (h : bd_ok n P) : bd_ok n (mDr P x y q) := by
  intro i hi
  obtain ⟨a0, a1, a2, a3, a4, a5⟩ := h i hi
  rw [mDr_k (by omega), mDr_k (by omega), mDr_k (by omega), mDr_k (by omega), mDr_k (by omega)]
  refine ⟨a0, a1, a2, a3, a4, ?_⟩
  unfold mDr
  split
  · exact Or.inl rfl
  · exact a5
theorem mDr_init {n : Nat} {P : Nat → Nat → Int32} {x y : Int32} {S : Nat → Int32} (h : mdS n P S) : mdS n (mDr P x y 0) S := by
  refine ⟨h.1, fun i hi k hk => ?_⟩
  rw [h.2 i hi k hk]
  unfold mOf mDr
  simp
theorem mDr_has {P : Nat → Nat → Int32} {x y : Int32} {i : Nat} (c : Int32) : mHs (mDr P x y i) i c x y = mHs P i c x y := by
  unfold mHs gL gT
  simp only [mDr_at]
theorem mDr_up {n i : Nat} {P : Nat → Nat → Int32} {x y : Int32} {S : Nat → Int32} (h : mdS n (mDr P x y i) S) (hc : ¬ (gSt P i = true ∧ mHs P i (P i 5) x y = true)) : mdS n (mDr P x y (i + 1)) S := by
  refine ⟨h.1, fun j hj k hk => ?_⟩
  rw [h.2 j hj k hk]
  have e : ∀ k2, mDr P x y i j k2 = mDr P x y (i + 1) j k2 := by
    intro k2
    unfold mDr
    by_cases hji : j = i
    · subst hji
      rw [if_neg (by omega), if_neg (by intro q; exact hc q.2.2)]
    · by_cases hz : j < i ∧ k2 = 5 ∧ gSt P j = true ∧ mHs P j (P j 5) x y = true
      · rw [if_pos hz, if_pos ⟨by omega, hz.2⟩]
      · rw [if_neg hz, if_neg (by intro q; exact hz ⟨by omega, q.2⟩)]
  unfold mOf
  rw [e, e]
theorem mDr_step_n {n i : Nat} {P : Nat → Nat → Int32} {x y : Int32} {S : Nat → Int32} (hi : i < n) (h : mdS n (mDr P x y i) S) (c : mDr P x y i i 5 = -1) : mdS n (mDr P x y (i + 1)) S := by
  rw [mDr_at] at c
  exact mDr_up h (fun q => by rw [gSt_f c] at q; exact absurd q.1 (by decide))
theorem mDr_step_c {n i : Nat} {P : Nat → Nat → Int32} {x y : Int32} {S : Nat → Int32} (hi : i < n) (h : mdS n (mDr P x y i) S) (hb : bd_ok n P) (c1 : ¬ mDr P x y i i 5 = -1) (c : mHs (mDr P x y i) i (mDr P x y i i 5) x y = false) : mdS n (mDr P x y (i + 1)) S := by
  rw [mDr_has, mDr_at] at c
  exact mDr_up h (fun q => by rw [c] at q; exact absurd q.2 (by decide))
theorem mDr_step_t {n i : Nat} {P : Nat → Nat → Int32} {x y : Int32} {S S2 : Nat → Int32} (hi : i < n) (hn : n ≤ 8) (h : mdS n (mDr P x y i) S) (e : S2 = upd S (1 + 6 * i + 5) (-1 + 1)) (c1 : ¬ mDr P x y i i 5 = -1) (c : mHs (mDr P x y i) i (mDr P x y i i 5) x y = true) : mdS n (mDr P x y (i + 1)) S2 := by
  have h2 := mdS_set5 (v := -1) hi h e
  rw [mDr_has, mDr_at] at c
  rw [mDr_at] at c1
  refine ⟨h2.1, fun j hj k hk => ?_⟩
  rw [h2.2 j hj k hk]
  have e2 : ∀ k2, gSet (mDr P x y i) i 5 (-1) j k2 = mDr P x y (i + 1) j k2 := by
    intro k2
    unfold gSet
    by_cases hq : j = i ∧ k2 = 5
    · obtain ⟨rfl, rfl⟩ := hq
      rw [if_pos ⟨rfl, rfl⟩]
      unfold mDr
      rw [if_pos ⟨by omega, rfl, gSt_t c1, c⟩]
    · rw [if_neg hq]
      unfold mDr
      by_cases hz : j < i ∧ k2 = 5 ∧ gSt P j = true ∧ mHs P j (P j 5) x y = true
      · rw [if_pos hz, if_pos ⟨by omega, hz.2⟩]
      · rw [if_neg hz, if_neg (by intro q; exact hz ⟨by omega, q.2⟩)]
  unfold mOf
  rw [e2, e2]
def mIns (n : Nat) (P : Nat → Nat → Int32) (x y wd hg wt : Int32) (i k : Nat) : Int32 :=
  if i = n then (if k = 0 then x else if k = 1 then y else if k = 2 then wd else if k = 3 then hg else if k = 4 then wt else -1)
  else mDr P x y n i k
theorem mIns_n {n i : Nat} {P : Nat → Nat → Int32} {x y wd hg wt : Int32} {S : Nat → Int32} (h : mdS n (mDr P x y i) S) : upd (upd (upd (upd (upd (upd S (1 + 6 * n + 0) x) (1 + 6 * n + 1) y) (1 + 6 * n + 2) wd) (1 + 6 * n + 3) hg) (1 + 6 * n + 4) wt) (1 + 6 * n + 5) 0 0 = nI n := by
  unfold upd
  rw [if_neg (by omega), if_neg (by omega), if_neg (by omega), if_neg (by omega), if_neg (by omega), if_neg (by omega)]
  exact h.1
theorem mIns_ok {n i : Nat} {P : Nat → Nat → Int32} {x y wd hg wt : Int32} {S : Nat → Int32} (hn : n < 8) (hi : n ≤ i) (hi2 : i ≤ n) (h : mdS n (mDr P x y i) S) : mdS (n + 1) (mIns n P x y wd hg wt) (upd (upd (upd (upd (upd (upd (upd S (1 + 6 * n + 0) x) (1 + 6 * n + 1) y) (1 + 6 * n + 2) wd) (1 + 6 * n + 3) hg) (1 + 6 * n + 4) wt) (1 + 6 * n + 5) 0) 0 (nI (n + 1))) := by
  have hin : i = n := by omega
  subst hin
  refine ⟨by unfold upd; rw [if_pos rfl], fun j hj k hk => ?_⟩
  unfold upd
  rw [if_neg (by omega)]
  by_cases hji : j = i
  · subst hji
    unfold mOf mIns
    rcases (show k = 0 ∨ k = 1 ∨ k = 2 ∨ k = 3 ∨ k = 4 ∨ k = 5 by omega) with rfl | rfl | rfl | rfl | rfl | rfl <;> simp <;> (repeat (first | omega | (rw [if_neg (by omega)]) | (rw [if_pos (by omega)])))
  · rw [if_neg (by omega), if_neg (by omega), if_neg (by omega), if_neg (by omega), if_neg (by omega), if_neg (by omega)]
    rw [h.2 j (by omega) k hk]
    unfold mOf mIns
    rw [if_neg hji, if_neg hji]
theorem mRef_lt {n : Nat} {P : Nat → Nat → Int32} {x y wd hg wt : Int32} (hn : n ≤ 8) (h : mRef n P x y wd hg wt = 0) : n < 8 := by
  rcases Nat.lt_or_ge n 8 with q | q
  · exact q
  · have e : n = 8 := by omega
    unfold mRef at h
    split at h
    · rw [if_pos (Or.inl e)] at h; exact absurd h (by decide)
    · exact absurd h (by decide)
theorem out6_step {i e0 : Nat} {S S1 S2 : Nat → Int32} (h : 6 * i ≤ e0 ∧ ∀ z, S1 z = if 1 + 6 * i ≤ z ∧ z < 1 + e0 then S (z + 6) else S z) (e : S2 = upd S1 (1 + e0) (S1 (1 + e0 + 6))) : 6 * i ≤ e0 + 1 ∧ ∀ z, S2 z = if 1 + 6 * i ≤ z ∧ z < 1 + (e0 + 1) then S (z + 6) else S z := by
  refine ⟨by omega, fun z => ?_⟩
  rw [e]
  unfold upd
  by_cases hz : z = 1 + e0
  · rw [if_pos hz, if_pos (by omega), h.2, if_neg (by omega), hz]
  · rw [if_neg hz, h.2]
    by_cases hy : 1 + 6 * i ≤ z ∧ z < 1 + e0
    · rw [if_pos hy, if_pos (by omega)]
    · rw [if_neg hy, if_neg (by omega)]
theorem out0_step {b k : Nat} {S S1 S2 : Nat → Int32} (h : ∀ z, S1 z = if 1 + b ≤ z ∧ z < 1 + b + k then 0 else S z) (e : S2 = upd S1 (1 + b + k) 0) : ∀ z, S2 z = if 1 + b ≤ z ∧ z < 1 + b + (k + 1) then 0 else S z := by
  intro z
  rw [e]
  unfold upd
  by_cases hz : z = 1 + b + k
  · rw [if_pos hz, if_pos (by omega)]
  · rw [if_neg hz, h]
    by_cases hy : 1 + b ≤ z ∧ z < 1 + b + k
    · rw [if_pos hy, if_pos (by omega)]
    · rw [if_neg hy, if_neg (by omega)]
theorem mdS_out {n mm i e0 k : Nat} {P : Nat → Nat → Int32} {S S0 S1 S2 : Nat → Int32} (hn : n ≤ 8) (en : n = mm + 1) (hi : i ≤ mm) (h : mdS n P S) (e : S0 = upd S 0 (nI mm)) (he : e0 = 6 * mm) (h1 : 6 * i ≤ e0 ∧ ∀ z, S1 z = if 1 + 6 * i ≤ z ∧ z < 1 + e0 then S0 (z + 6) else S0 z) (hk : k = 6) (h2 : ∀ z, S2 z = if 1 + 6 * mm ≤ z ∧ z < 1 + 6 * mm + k then 0 else S1 z) : mdS mm (gOut P i) S2 := by
  subst he
  subst hk
  subst en
  refine ⟨by rw [h2, if_neg (by omega), h1.2, if_neg (by omega), e]; unfold upd; rw [if_pos rfl], fun j hj q hq => ?_⟩
  rw [h2, if_neg (by omega), h1.2]
  have e2 : ∀ z, ¬ z = 0 → S0 z = S z := by
    intro z hz
    rw [e]
    unfold upd
    rw [if_neg hz]
  unfold mOf gOut
  by_cases hji : j < i
  · rw [if_neg (by omega), e2 _ (by omega), h.2 j (by omega) q hq, if_pos hji, if_pos hji]
    rfl
  · rw [if_pos (by omega), e2 _ (by omega), show 1 + 6 * j + q + 6 = 1 + 6 * (j + 1) + q by omega, h.2 (j + 1) (by omega) q hq, if_neg hji, if_neg hji]
    rfl
theorem bd_ok_out {n mm i : Nat} {P : Nat → Nat → Int32} (en : n = mm + 1) (hi : i ≤ mm) (h : bd_ok n P) : bd_ok mm (gOut P i) := by
  intro j hj
  unfold gOut
  by_cases hji : j < i
  · simp only [if_pos hji]
    exact h j (by omega)
  · simp only [if_neg hji]
    exact h (j + 1) (by omega)
def mFq (P : Nat → Nat → Int32) (q : Nat) : Nat → Nat → Int32 := fun j k => if j < q then gFlp P j k else P j k
theorem mFq_at {P : Nat → Nat → Int32} {q k : Nat} : mFq P q q k = P q k := by
  unfold mFq
  rw [if_neg (Nat.lt_irrefl q)]
theorem mFq_init {n : Nat} {P : Nat → Nat → Int32} {S : Nat → Int32} (h : mdS n P S) : mdS n (mFq P 0) S := by
  refine ⟨h.1, fun i hi k hk => ?_⟩
  rw [h.2 i hi k hk]
  unfold mOf mFq
  simp
theorem ok5_flp {c : Int32} (h : c = -1 ∨ ok4 c) (hs : ¬ c = -1) : ok4 (c ^^^ 1) := by
  rcases h with h | h
  · exact absurd h hs
  · rcases h with rfl | rfl | rfl | rfl
    · exact Or.inr (Or.inl (by decide))
    · exact Or.inl (by decide)
    · exact Or.inr (Or.inr (Or.inr (by decide)))
    · exact Or.inr (Or.inr (Or.inl (by decide)))
theorem ti_59 {a : Int32} (h : 0 ≤ a.toInt ∧ a.toInt ≤ 59) : 0 ≤ (59 - a).toInt ∧ (59 - a).toInt ≤ 59 := by
  have e : (59 : Int32).toInt = 59 := by decide
  rw [ti_sub (by rw [e]; omega) (by rw [e]; omega), e]
  omega
theorem bd_ok_flp {n : Nat} {P : Nat → Nat → Int32} (h : bd_ok n P) : bd_ok n (gFlp P) := by
  intro j hj
  obtain ⟨a0, a1, a2, a3, a4, a5⟩ := h j hj
  refine ⟨by simpa [gFlp] using ti_59 a0, by simpa [gFlp] using a1, by simpa [gFlp] using a2, by simpa [gFlp] using a3, by simpa [gFlp] using a4, ?_⟩
  unfold gFlp
  rw [if_neg (by decide)]
  by_cases hs : P j 5 = -1
  · rw [gSt_f hs, if_neg (by simp), hs]
    exact Or.inl rfl
  · rw [gSt_t hs, if_pos ⟨rfl, rfl⟩]
    exact Or.inr (ok5_flp a5 hs)
theorem bd_ok_fq {n q : Nat} {P : Nat → Nat → Int32} (h : bd_ok n P) : bd_ok n (mFq P q) := by
  intro j hj
  unfold mFq
  by_cases hq : j < q
  · simp only [if_pos hq]
    exact bd_ok_flp h j hj
  · simp only [if_neg hq]
    exact h j hj
theorem bd_ok_fq2 {n i : Nat} {P : Nat → Nat → Int32} (h : bd_ok n P) (hi : i < n) : bd_ok n (gSet (mFq P i) i 0 (59 - mFq P i i 0)) := by
  intro j hj
  obtain ⟨a0, a1, a2, a3, a4, a5⟩ := bd_ok_fq (q := i) h j hj
  by_cases hji : j = i
  · subst hji
    exact ⟨by simpa [gSet] using ti_59 a0, by simpa [gSet] using a1, by simpa [gSet] using a2, by simpa [gSet] using a3, by simpa [gSet] using a4, by simpa [gSet] using a5⟩
  · exact ⟨by simpa [gSet, hji] using a0, by simpa [gSet, hji] using a1, by simpa [gSet, hji] using a2, by simpa [gSet, hji] using a3, by simpa [gSet, hji] using a4, by simpa [gSet, hji] using a5⟩
theorem mFq_step {n i : Nat} {P : Nat → Nat → Int32} {S S2 : Nat → Int32} (hi : i < n) (h : mdS n (gSet (mFq P i) i 0 (59 - mFq P i i 0)) S) (e : S2 = upd S (1 + 6 * i + 5) ((if (gSet (mFq P i) i 0 (59 - mFq P i i 0)) i 5 = -1 then -1 else (gSet (mFq P i) i 0 (59 - mFq P i i 0)) i 5 ^^^ 1) + 1)) : mdS n (mFq P (i + 1)) S2 := by
  have h2 := mdS_set5 hi h e
  refine ⟨h2.1, fun j hj k hk => ?_⟩
  rw [h2.2 j hj k hk]
  have e5 : (gSet (mFq P i) i 0 (59 - mFq P i i 0)) i 5 = P i 5 := by
    unfold gSet
    rw [if_neg (by omega), mFq_at]
  rw [e5]
  have key : ∀ k2, gSet (gSet (mFq P i) i 0 (59 - mFq P i i 0)) i 5 (if P i 5 = -1 then -1 else P i 5 ^^^ 1) j k2 = mFq P (i + 1) j k2 := by
    intro k2
    unfold gSet
    by_cases hji : j = i
    · subst hji
      have e9 : mFq P (j + 1) j k2 = gFlp P j k2 := by
        unfold mFq
        rw [if_pos (by omega)]
      rw [e9]
      unfold gFlp
      by_cases h5 : k2 = 5
      · subst h5
        rw [if_pos ⟨rfl, rfl⟩, if_neg (show ¬ (5 : Nat) = 0 by decide)]
        by_cases hs : P j 5 = -1
        · rw [if_pos hs, gSt_f hs, if_neg (by simp), hs]
        · rw [if_neg hs, gSt_t hs, if_pos ⟨rfl, rfl⟩]
      · rw [if_neg (by omega)]
        by_cases h0 : k2 = 0
        · subst h0
          rw [if_pos ⟨rfl, rfl⟩, if_pos rfl, mFq_at]
        · rw [if_neg (by omega), if_neg h0, if_neg (by omega), mFq_at]
    · rw [if_neg (by omega), if_neg (by omega)]
      unfold mFq
      by_cases hq : j < i
      · rw [if_pos hq, if_pos (by omega)]
      · rw [if_neg hq, if_neg (by omega)]
  unfold mOf
  rw [key, key]
theorem gF_congr {n : Nat} {f g : Nat → Int32 → Int32} (h : ∀ i, i < n → ∀ a, f i a = g i a) : ∀ (k i : Nat) (a : Int32), i + k = n → gF n f i a = gF n g i a
  | 0, i, a, hi => by
    have h9 : n ≤ i := by omega
    rw [gF_end h9, gF_end h9]
  | k + 1, i, a, hi => by
    have h9 : i < n := by omega
    rw [gF_step h9, gF_step h9, h i h9, gF_congr h k (i + 1) _ (by omega)]
theorem mFq_gN {n i : Nat} {P : Nat → Nat → Int32} (hi : n ≤ i) : gN n (mFq P i) = gN n (gFlp P) := by
  unfold gN
  refine gF_congr (fun j hj a => ?_) n 0 0 (by omega)
  have e : mFq P i j 5 = gFlp P j 5 := by unfold mFq; exact if_pos (by omega)
  unfold gNF gSt
  rw [e]
theorem mFq_fin {n i : Nat} {P : Nat → Nat → Int32} {S : Nat → Int32} (hi : n ≤ i) (h : mdS n (mFq P i) S) : mdS n (gFlp P) S := by
  refine ⟨h.1, fun j hj k hk => ?_⟩
  rw [h.2 j hj k hk]
  have e : ∀ k2, mFq P i j k2 = gFlp P j k2 := fun k2 => by unfold mFq; exact if_pos (by omega)
  unfold mOf
  rw [e, e]
theorem und_step {r k : Nat} {sv S S2 : Nat → Int32} (h : ∀ z, z < k → S z = sv (49 * r + z)) (e : S2 = upd S k (sv (49 * r + k))) : ∀ z, z < k + 1 → S2 z = sv (49 * r + z) := by
  intro z hz
  rw [e]
  unfold upd
  by_cases hzk : z = k
  · rw [if_pos hzk, hzk]
  · rw [if_neg hzk]
    exact h z (by omega)
theorem mq_pos {q : Nat} (h : ¬ nI q = 0) : 0 < q := by
  rcases Nat.eq_zero_or_pos q with h1 | h1
  · subst h1; exact absurd rfl h
  · exact h1
theorem mq_zero {q : Nat} (hq : q ≤ 6) (h : nI q = 0) : q = 0 := by
  have h2 : nI q = nI 0 := h
  exact (nI_eq (by omega) (by omega)).mp h2
