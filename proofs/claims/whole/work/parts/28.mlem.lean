/-! a point comes: labels on its square are dropped, one after the other -/
def mDr (P : Nat → Nat → Int32) (x y : Int32) (q : Nat) : Nat → Nat → Int32 := fun i k => if i < q ∧ k = 5 ∧ gSt P i = true ∧ mHs P i (P i 5) x y = true then -1 else P i k
theorem mDr_k {P : Nat → Nat → Int32} {x y : Int32} {q i k : Nat} (h : ¬ k = 5) : mDr P x y q i k = P i k := by
  unfold mDr
  rw [if_neg (by omega)]
theorem mDr_at {P : Nat → Nat → Int32} {x y : Int32} {q k : Nat} : mDr P x y q q k = P q k := by
  unfold mDr
  rw [if_neg (by omega)]
theorem bd_ok_dr {n q : Nat} {P : Nat → Nat → Int32} {x y : Int32} (h : bd_ok n P) : bd_ok n (mDr P x y q) := by
  intro i hi
  obtain ⟨a0, a1, a2, a3, a4, a5⟩ := h i hi
  rw [mDr_k (by omega), mDr_k (by omega), mDr_k (by omega), mDr_k (by omega), mDr_k (by omega)]
  refine ⟨a0, a1, a2, a3, a4, ?_⟩
  unfold mDr
  split
  · exact Or.inl rfl
  · exact a5
theorem mDr_init {n : Nat} {P : Nat → Nat → Int32} {x y : Int32} {S : Nat → Int32} (h : mdS n P S) : mdS n (mDr P x y 0) S := by
  refine ⟨h.1, fun i hi k hk => ?_⟩
  rw [h.2 i hi k hk]
  unfold mOf mDr
  simp
theorem mDr_has {P : Nat → Nat → Int32} {x y : Int32} {i : Nat} (c : Int32) : mHs (mDr P x y i) i c x y = mHs P i c x y := by
  unfold mHs gL gT
  simp only [mDr_at]
theorem mDr_up {n i : Nat} {P : Nat → Nat → Int32} {x y : Int32} {S : Nat → Int32} (h : mdS n (mDr P x y i) S) (hc : ¬ (gSt P i = true ∧ mHs P i (P i 5) x y = true)) : mdS n (mDr P x y (i + 1)) S := by
  refine ⟨h.1, fun j hj k hk => ?_⟩
  rw [h.2 j hj k hk]
  have e : ∀ k2, mDr P x y i j k2 = mDr P x y (i + 1) j k2 := by
    intro k2
    unfold mDr
    by_cases hji : j = i
    · subst hji
      rw [if_neg (by omega), if_neg (by intro q; exact hc q.2.2)]
    · by_cases hz : j < i ∧ k2 = 5 ∧ gSt P j = true ∧ mHs P j (P j 5) x y = true
      · rw [if_pos hz, if_pos ⟨by omega, hz.2⟩]
      · rw [if_neg hz, if_neg (by intro q; exact hz ⟨by omega, q.2⟩)]
  unfold mOf
  rw [e, e]
theorem mDr_step_n {n i : Nat} {P : Nat → Nat → Int32} {x y : Int32} {S : Nat → Int32} (hi : i < n) (h : mdS n (mDr P x y i) S) (c : mDr P x y i i 5 = -1) : mdS n (mDr P x y (i + 1)) S := by
  rw [mDr_at] at c
  exact mDr_up h (fun q => by rw [gSt_f c] at q; exact absurd q.1 (by decide))
theorem mDr_step_c {n i : Nat} {P : Nat → Nat → Int32} {x y : Int32} {S : Nat → Int32} (hi : i < n) (h : mdS n (mDr P x y i) S) (hb : bd_ok n P) (c1 : ¬ mDr P x y i i 5 = -1) (c : mHs (mDr P x y i) i (mDr P x y i i 5) x y = false) : mdS n (mDr P x y (i + 1)) S := by
  rw [mDr_has, mDr_at] at c
  exact mDr_up h (fun q => by rw [c] at q; exact absurd q.2 (by decide))
theorem mDr_step_t {n i : Nat} {P : Nat → Nat → Int32} {x y : Int32} {S S2 : Nat → Int32} (hi : i < n) (hn : n ≤ 8) (h : mdS n (mDr P x y i) S) (e : S2 = upd S (1 + 6 * i + 5) (-1 + 1)) (c1 : ¬ mDr P x y i i 5 = -1) (c : mHs (mDr P x y i) i (mDr P x y i i 5) x y = true) : mdS n (mDr P x y (i + 1)) S2 := by
  have h2 := mdS_set5 (v := -1) hi h e
  rw [mDr_has, mDr_at] at c
  rw [mDr_at] at c1
  refine ⟨h2.1, fun j hj k hk => ?_⟩
  rw [h2.2 j hj k hk]
  have e2 : ∀ k2, gSet (mDr P x y i) i 5 (-1) j k2 = mDr P x y (i + 1) j k2 := by
    intro k2
    unfold gSet
    by_cases hq : j = i ∧ k2 = 5
    · obtain ⟨rfl, rfl⟩ := hq
      rw [if_pos ⟨rfl, rfl⟩]
      unfold mDr
      rw [if_pos ⟨by omega, rfl, gSt_t c1, c⟩]
    · rw [if_neg hq]
      unfold mDr
      by_cases hz : j < i ∧ k2 = 5 ∧ gSt P j = true ∧ mHs P j (P j 5) x y = true
      · rw [if_pos hz, if_pos ⟨by omega, hz.2⟩]
      · rw [if_neg hz, if_neg (by intro q; exact hz ⟨by omega, q.2⟩)]
  unfold mOf
  rw [e2, e2]
def mIns (n : Nat) (P : Nat → Nat → Int32) (x y wd hg wt : Int32) (i k : Nat) : Int32 :=
  if i = n then (if k = 0 then x else if k = 1 then y else if k = 2 then wd else if k = 3 then hg else if k = 4 then wt else -1)
  else mDr P x y n i k
theorem mIns_n {n i : Nat} {P : Nat → Nat → Int32} {x y wd hg wt : Int32} {S : Nat → Int32} (h : mdS n (mDr P x y i) S) : upd (upd (upd (upd (upd (upd S (1 + 6 * n + 0) x) (1 + 6 * n + 1) y) (1 + 6 * n + 2) wd) (1 + 6 * n + 3) hg) (1 + 6 * n + 4) wt) (1 + 6 * n + 5) 0 0 = nI n := by
  unfold upd
  rw [if_neg (by omega), if_neg (by omega), if_neg (by omega), if_neg (by omega), if_neg (by omega), if_neg (by omega)]
  exact h.1
theorem mIns_ok {n i : Nat} {P : Nat → Nat → Int32} {x y wd hg wt : Int32} {S : Nat → Int32} (hn : n < 8) (hi : n ≤ i) (hi2 : i ≤ n) (h : mdS n (mDr P x y i) S) : mdS (n + 1) (mIns n P x y wd hg wt) (upd (upd (upd (upd (upd (upd (upd S (1 + 6 * n + 0) x) (1 + 6 * n + 1) y) (1 + 6 * n + 2) wd) (1 + 6 * n + 3) hg) (1 + 6 * n + 4) wt) (1 + 6 * n + 5) 0) 0 (nI (n + 1))) := by
  have hin : i = n := by omega
  subst hin
  refine ⟨by unfold upd; rw [if_pos rfl], fun j hj k hk => ?_⟩
  unfold upd
  rw [if_neg (by omega)]
  by_cases hji : j = i
  · subst hji
    unfold mOf mIns
    rcases (show k = 0 ∨ k = 1 ∨ k = 2 ∨ k = 3 ∨ k = 4 ∨ k = 5 by omega) with rfl | rfl | rfl | rfl | rfl | rfl <;> simp <;> (repeat (first | omega | (rw [if_neg (by omega)]) | (rw [if_pos (by omega)])))
  · rw [if_neg (by omega), if_neg (by omega), if_neg (by omega), if_neg (by omega), if_neg (by omega), if_neg (by omega)]
    rw [h.2 j (by omega) k hk]
    unfold mOf mIns
    rw [if_neg hji, if_neg hji]
