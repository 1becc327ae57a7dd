/-! what look lays down -/
def lkI (q n : Nat) (P : Nat → Nat → Int32) (aO aW aN : Nat → Int32) : Prop := ∀ j, j < q → aO j = gMk n P j ∧ aW j = P j 4 ∧ aN j = P j 5
theorem lkI_step {i n : Nat} {P : Nat → Nat → Int32} {aO aW aN aO2 aW2 aN2 : Nat → Int32} (h : lkI i n P aO aW aN) (e1 : aO2 = upd aO i (gMk n P i)) (e2 : aW2 = upd aW i (P i 4)) (e3 : aN2 = upd aN i (P i 5)) : lkI (i + 1) n P aO2 aW2 aN2 := by
  intro j hj
  rw [e1, e2, e3]
  unfold upd
  by_cases hji : j = i
  · simp [hji]
  · simp only [if_neg hji]
    exact h j (by omega)
def lcI (q n : Nat) (aO : Nat → Int32) (P : Nat → Nat → Int32) (aC : Nat → Int32) : Prop := ∀ j, j < q → ∀ k, k < 4 → aC (j * 4 + k) = gLc n aO P j (nI k)
def lcG (n : Nat) (aO : Nat → Int32) (P : Nat → Nat → Int32) (i k : Nat) (aC aC2 : Nat → Int32) : Prop := (∀ k2, k2 < k → k2 < 4 → aC2 (i * 4 + k2) = gLc n aO P i (nI k2)) ∧ ∀ z, z < i * 4 → aC2 z = aC z
theorem lcG_init {n i : Nat} {aO aC : Nat → Int32} {P : Nat → Nat → Int32} : lcG n aO P i 0 aC aC := ⟨fun k h => absurd h (by omega), fun _ _ => rfl⟩
theorem lcG_step {n i k : Nat} {aO aC aC2 aC3 : Nat → Int32} {P : Nat → Nat → Int32} (hk : k < 4) (h : lcG n aO P i k aC aC2) (e : aC3 = upd aC2 (i * 4 + k) (gLc n aO P i (nI k))) : lcG n aO P i (k + 1) aC aC3 := by
  refine ⟨fun k2 h1 h2 => ?_, fun z hz => ?_⟩
  · rw [e]
    unfold upd
    by_cases hq : k2 = k
    · rw [if_pos (by omega), hq]
    · rw [if_neg (by omega)]
      exact h.1 k2 (by omega) h2
  · rw [e]
    unfold upd
    rw [if_neg (by omega)]
    exact h.2 z hz
theorem lcI_step {n i k : Nat} {aO aC aC2 : Nat → Int32} {P : Nat → Nat → Int32} (h : lcI i n aO P aC) (h2 : lcG n aO P i k aC aC2) (hk : 4 ≤ k) : lcI (i + 1) n aO P aC2 := by
  intro j hj k2 hk2
  by_cases hji : j = i
  · subst hji
    exact h2.1 k2 (by omega) hk2
  · rw [h2.2 _ (by omega)]
    exact h j (by omega) k2 hk2
