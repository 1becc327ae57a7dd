/-! THE BOARD CHANGED -/
def gIns (n : Nat) (P : Nat → Nat → Int32) (x y wd hg wt : Int32) (i k : Nat) : Int32 :=
  if i = n then (if k = 0 then x else if k = 1 then y else if k = 2 then wd else if k = 3 then hg else if k = 4 then wt else -1)
  else if k = 5 ∧ gLb n P x y = nI i then -1 else P i k
def gFlp (P : Nat → Nat → Int32) (i k : Nat) : Int32 := if k = 0 then 59 - P i 0 else if k = 5 ∧ gSt P i = true then P i 5 ^^^ 1 else P i k
def gOut (P : Nat → Nat → Int32) (j i k : Nat) : Int32 := if i < j then P i k else P (i + 1) k
theorem gS_cases {n : Nat} {b : Nat → Bool} : ∀ (k i : Nat), i + k = n → gS n b nI (-1) i = -1 ∨ ∃ j, j < n ∧ i ≤ j ∧ b j = true ∧ gS n b nI (-1) i = nI j ∧ ∀ q, i ≤ q → q < j → b q = false
  | 0, i, h => Or.inl (gS_end (by omega))
  | k + 1, i, h => by
    rw [gS_step (by omega)]
    cases hb : b i with
    | true => exact Or.inr ⟨i, by omega, Nat.le_refl _, hb, by simp, fun q h1 h2 => absurd h2 (by omega)⟩
    | false =>
      rcases gS_cases (n := n) (b := b) k (i + 1) (by omega) with h1 | ⟨j, h1, h2, h3, h4, h5⟩
      · exact Or.inl (by simpa using h1)
      · refine Or.inr ⟨j, h1, by omega, h3, by simpa using h4, fun q q1 q2 => ?_⟩
        rcases Nat.eq_or_lt_of_le q1 with q3 | q3
        · rw [← q3]; exact hb
        · exact h5 q q3 q2
theorem nI_m1 {j : Nat} (h : j < 8) : ¬ nI j = -1 := by
  intro q
  have h1 := congrArg Int32.toInt q
  rw [nI_toInt (by omega)] at h1
  have h2 : (-1 : Int32).toInt = -1 := by decide
  omega
theorem gLb_cases {n : Nat} {P : Nat → Nat → Int32} {x y : Int32} (h : ¬ gLb n P x y = -1) : ∃ z, z < n ∧ gLb n P x y = nI z := by
  rcases gS_cases (n := n) (b := fun i => gSt P i && gCov P i (P i 5) x y) n 0 (by omega) with h1 | ⟨j, h1, -, -, h2, -⟩
  · exact absurd h1 h
  · exact ⟨j, h1, h2⟩
theorem gIns_ok_none {n : Nat} {P : Nat → Nat → Int32} {f : Nat → Int32} {x y wd hg wt : Int32} (hf : ∀ i, i < n → ∀ k, k < 6 → f (8 * k + i) = P i k) (hn : n < 8) (h : gLb n P x y = -1) : ∀ i, i < n + 1 → ∀ k, k < 6 →
    upd (upd (upd (upd (upd (upd f (0 + n) x) (8 + n) y) (16 + n) wd) (24 + n) hg) (32 + n) wt) (40 + n) (-1) (8 * k + i) = gIns n P x y wd hg wt i k := by
  intro i hi k hk
  unfold gIns upd
  by_cases hin : i = n
  · subst hin
    rcases (show k = 0 ∨ k = 1 ∨ k = 2 ∨ k = 3 ∨ k = 4 ∨ k = 5 by omega) with rfl | rfl | rfl | rfl | rfl | rfl <;> simp <;> (repeat (first | omega | (rw [if_neg (by omega)]) | (rw [if_pos (by omega)])))
  · have q0 : ¬ (8 * k + i = 0 + n) := by omega
    have q1 : ¬ (8 * k + i = 8 + n) := by omega
    have q2 : ¬ (8 * k + i = 16 + n) := by omega
    have q3 : ¬ (8 * k + i = 24 + n) := by omega
    have q4 : ¬ (8 * k + i = 32 + n) := by omega
    have q5 : ¬ (8 * k + i = 40 + n) := by omega
    have q6 : ¬ (k = 5 ∧ gLb n P x y = nI i) := by
      intro q
      have q7 := q.2
      rw [h] at q7
      exact nI_m1 (by omega) q7.symm
    simp only [if_neg q0, if_neg q1, if_neg q2, if_neg q3, if_neg q4, if_neg q5, if_neg q6, if_neg hin]
    exact hf i (by omega) k hk
theorem gIns_ok_some {n : Nat} {P : Nat → Nat → Int32} {f : Nat → Int32} {x y wd hg wt : Int32} (hf : ∀ i, i < n → ∀ k, k < 6 → f (8 * k + i) = P i k) (hn : n < 8) {z : Nat} (hz : z < n) (h : gLb n P x y = nI z) : ∀ i, i < n + 1 → ∀ k, k < 6 →
    upd (upd (upd (upd (upd (upd (upd f (40 + z) (-1)) (0 + n) x) (8 + n) y) (16 + n) wd) (24 + n) hg) (32 + n) wt) (40 + n) (-1) (8 * k + i) = gIns n P x y wd hg wt i k := by
  intro i hi k hk
  unfold gIns upd
  by_cases hin : i = n
  · subst hin
    rcases (show k = 0 ∨ k = 1 ∨ k = 2 ∨ k = 3 ∨ k = 4 ∨ k = 5 by omega) with rfl | rfl | rfl | rfl | rfl | rfl <;> simp <;> (repeat (first | omega | (rw [if_neg (by omega)]) | (rw [if_pos (by omega)])))
  · have q0 : ¬ (8 * k + i = 0 + n) := by omega
    have q1 : ¬ (8 * k + i = 8 + n) := by omega
    have q2 : ¬ (8 * k + i = 16 + n) := by omega
    have q3 : ¬ (8 * k + i = 24 + n) := by omega
    have q4 : ¬ (8 * k + i = 32 + n) := by omega
    have q5 : ¬ (8 * k + i = 40 + n) := by omega
    simp only [if_neg q0, if_neg q1, if_neg q2, if_neg q3, if_neg q4, if_neg q5, if_neg hin]
    by_cases hk5 : k = 5 ∧ gLb n P x y = nI i
    · have hiz : i = z := by
        have := hk5.2
        rw [h] at this
        exact ((nI_eq (by omega) (by omega)).mp this).symm
      rw [if_pos hk5, if_pos (by omega)]
    · rw [if_neg hk5, if_neg (by intro q; exact hk5 ⟨by omega, by rw [show i = z by omega]; exact h⟩)]
      exact hf i (by omega) k hk
def gFlpQ (P : Nat → Nat → Int32) (i j k : Nat) : Int32 := if j < i then gFlp P j k else if j = i ∧ k = 0 then 59 - P i 0 else P j k
theorem gFlpQ_st (P : Nat → Nat → Int32) (i : Nat) : gSt (gFlpQ P i) i = gSt P i := by
  unfold gSt gFlpQ
  rw [if_neg (Nat.lt_irrefl i), if_neg (by omega)]
section FLP
variable {n i : Nat} {P : Nat → Nat → Int32} {f f2 f3 : Nat → Int32}
theorem gFlp_x (hi : i < n) (inv : ∀ j, j < n → ∀ k, k < 6 → f (8 * k + j) = if j < i then gFlp P j k else P j k) : f (0 + i) = P i 0 := by
  have h := inv i hi 0 (by omega)
  rw [if_neg (Nat.lt_irrefl i)] at h
  exact h
theorem gFlp_c (hi : i < n) (hn : n ≤ 8) (inv : ∀ j, j < n → ∀ k, k < 6 → f (8 * k + j) = if j < i then gFlp P j k else P j k) (e : f2 = upd f (0 + i) (59 - P i 0)) : f2 (40 + i) = P i 5 := by
  have h := inv i hi 5 (by omega)
  rw [if_neg (Nat.lt_irrefl i)] at h
  rw [e]
  unfold upd
  rw [if_neg (by omega)]
  exact h
theorem gFlp_half (hi : i < n) (hn : n ≤ 8) (inv : ∀ j, j < n → ∀ k, k < 6 → f (8 * k + j) = if j < i then gFlp P j k else P j k) (e : f2 = upd f (0 + i) (59 - P i 0)) : ∀ j, j < n → ∀ k, k < 6 → f2 (8 * k + j) = gFlpQ P i j k := by
  intro j hj k hk
  rw [e]
  unfold upd gFlpQ
  by_cases h1 : 8 * k + j = 0 + i
  · rw [if_pos h1, if_neg (by omega), if_pos (by omega)]
  · rw [if_neg h1, inv j hj k hk]
    by_cases h2 : j < i
    · rw [if_pos h2, if_pos h2]
    · rw [if_neg h2, if_neg h2, if_neg (by omega)]
theorem gFlp_step_f (hi : i < n) (hn : n ≤ 8) (inv : ∀ j, j < n → ∀ k, k < 6 → f (8 * k + j) = if j < i then gFlp P j k else P j k) (e : f2 = upd f (0 + i) (59 - P i 0)) (hs : gSt (gFlpQ P i) i = false) : ∀ j, j < n → ∀ k, k < 6 → f2 (8 * k + j) = if j < i + 1 then gFlp P j k else P j k := by
  intro j hj k hk
  rw [gFlpQ_st] at hs
  rw [gFlp_half hi hn inv e j hj k hk]
  unfold gFlpQ
  by_cases h2 : j < i
  · rw [if_pos h2, if_pos (by omega)]
  · rw [if_neg h2]
    by_cases h3 : j = i
    · subst h3
      rw [if_pos (by omega : j < j + 1)]
      unfold gFlp
      rw [hs]
      by_cases h4 : k = 0
      · simp [h4]
      · simp [h4]
    · rw [if_neg (by omega), if_neg (by omega)]
theorem gFlp_step_t (hi : i < n) (hn : n ≤ 8) (inv : ∀ j, j < n → ∀ k, k < 6 → f (8 * k + j) = if j < i then gFlp P j k else P j k) (e : f2 = upd f (0 + i) (59 - P i 0)) (e3 : f3 = upd f2 (40 + i) (P i 5 ^^^ 1)) (hs : gSt (gFlpQ P i) i = true) : ∀ j, j < n → ∀ k, k < 6 → f3 (8 * k + j) = if j < i + 1 then gFlp P j k else P j k := by
  intro j hj k hk
  rw [gFlpQ_st] at hs
  rw [e3]
  have hh := gFlp_half hi hn inv e j hj k hk
  unfold upd
  by_cases h1 : 8 * k + j = 40 + i
  · have h5 : k = 5 := by omega
    have h6 : j = i := by omega
    subst h5; subst h6
    rw [if_pos h1, if_pos (by omega)]
    simp [gFlp, hs]
  · rw [if_neg h1, hh]
    unfold gFlpQ
    by_cases h2 : j < i
    · rw [if_pos h2, if_pos (by omega)]
    · rw [if_neg h2]
      by_cases h3 : j = i
      · subst h3
        rw [if_pos (by omega : j < j + 1)]
        unfold gFlp
        by_cases h4 : k = 0
        · simp [h4]
        · have h7 : ¬ k = 5 := by omega
          simp [h4, h7]
      · rw [if_neg (by omega), if_neg (by omega)]
end FLP
theorem gOut_inner {pt d e0 : Nat} {f1 f2 f3 : Nat → Int32} (h : pt ≤ e0 ∧ ∀ z, f2 z = if d + pt ≤ z ∧ z < d + e0 then f1 (z + 1) else f1 z) (e : f3 = upd f2 (d + e0) (f2 (d + e0 + 1))) : pt ≤ e0 + 1 ∧ ∀ z, f3 z = if d + pt ≤ z ∧ z < d + (e0 + 1) then f1 (z + 1) else f1 z := by
  refine ⟨by omega, fun z => ?_⟩
  rw [e]
  unfold upd
  by_cases hz : z = d + e0
  · rw [if_pos hz, if_pos (by omega), h.2, if_neg (by omega), hz]
  · rw [if_neg hz, h.2]
    by_cases hy : d + pt ≤ z ∧ z < d + e0
    · rw [if_pos hy, if_pos (by omega)]
    · rw [if_neg hy, if_neg (by omega)]
theorem gOut_outer {m pt d q e0 : Nat} {f f1 f2 : Nat → Int32} (hm : m < 8) (hq : d = 8 * q) (hin : ∀ z, z < 48 → f1 z = if z / 8 < q ∧ pt ≤ z % 8 ∧ z % 8 < m then f (z + 1) else f z) (h : pt ≤ e0 ∧ ∀ z, f2 z = if d + pt ≤ z ∧ z < d + e0 then f1 (z + 1) else f1 z) (he : e0 = m) (hd : d < 48) : ∃ q : Nat, d + 8 = 8 * q ∧ ∀ z, z < 48 → f2 z = if z / 8 < q ∧ pt ≤ z % 8 ∧ z % 8 < m then f (z + 1) else f z := by
  subst he
  refine ⟨q + 1, by omega, fun z hz => ?_⟩
  rw [h.2]
  by_cases hy : d + pt ≤ z ∧ z < d + e0
  · rw [if_pos hy, if_pos (by omega), hin (z + 1) (by omega), if_neg (by omega)]
  · rw [if_neg hy, hin z hz]
    by_cases hx : z / 8 < q ∧ pt ≤ z % 8 ∧ z % 8 < e0
    · rw [if_pos hx, if_pos (by omega)]
    · rw [if_neg hx, if_neg (by omega)]
theorem gOut_fin {m pt d q : Nat} {P : Nat → Nat → Int32} {f f1 : Nat → Int32} (hm : m < 8) (hq : d = 8 * q) (hin : ∀ z, z < 48 → f1 z = if z / 8 < q ∧ pt ≤ z % 8 ∧ z % 8 < m then f (z + 1) else f z) (hf : ∀ i, i < m + 1 → ∀ k, k < 6 → f (8 * k + i) = P i k) (hd : 48 ≤ d) : ∀ i, i < m → ∀ k, k < 6 → f1 (8 * k + i) = gOut P pt i k := by
  intro i hi k hk
  rw [hin _ (by omega)]
  unfold gOut
  by_cases h : i < pt
  · rw [if_neg (by omega), if_pos h]
    exact hf i (by omega) k hk
  · rw [if_pos (by omega), if_neg h]
    exact hf (i + 1) (by omega) k hk
