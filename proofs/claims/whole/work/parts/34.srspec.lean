abbrev St2 : Type := Int32 × (Nat → Int32)
def updN (t : Nat → Nat) (i c : Nat) : Nat → Nat := fun j => if j = i then c else t j
def srL (f : (Nat → Nat) → St2 → St2) (m n : Nat) (al : Nat → Int32) (P : Nat → Nat → Int32) (i : Nat) : Nat → Nat → (Nat → Nat) → St2 → St2
  | 0, _, _, z => z
  | r + 1, c, t, z => if mFit al P (updN t i c) i && mCan m n P (updN t i c) z.1 (i + 1) then srL f m n al P i r (c + 1) t (f (updN t i c) z) else srL f m n al P i r (c + 1) t z
def srM (m n : Nat) (al : Nat → Int32) (P : Nat → Nat → Int32) : Nat → Nat → (Nat → Nat) → St2 → St2
  | 0, _, t, z => mLk m n P t z
  | d + 1, i, t, z => srL (fun t' z' => srM m n al P d (i + 1) t' z') m n al P i 5 0 t z
theorem upN_ok {t : Nat → Nat} {tl tl2 : Nat → Int32} {i c : Nat} (h : ∀ j, j < i → tl j = nI (t j)) (e : tl2 = upd tl i (nI c)) : ∀ j, j < i + 1 → tl2 j = nI (updN t i c j) := by
  intro j hj
  rw [e]
  unfold upd updN
  by_cases hji : j = i
  · rw [if_pos hji, if_pos hji]
  · rw [if_neg hji, if_neg hji]
    exact h j (by omega)
theorem upN_4 {t : Nat → Nat} {i c : Nat} (h : ∀ j, j < i → t j ≤ 4) (hc : c ≤ 4) : ∀ j, j < i + 1 → updN t i c j ≤ 4 := by
  intro j hj
  unfold updN
  by_cases hji : j = i
  · rw [if_pos hji]; exact hc
  · rw [if_neg hji]
    exact h j (by omega)
theorem upN_pre {t : Nat → Nat} {tl : Nat → Int32} {i c : Nat} (h : ∀ j, j < i + 1 → tl j = nI (updN t i c j)) : (∀ j, j < i → tl j = nI (t j)) ∧ tl i = nI (c + 1) + (-1) := by
  refine ⟨fun j hj => ?_, ?_⟩
  · have := h j (by omega)
    unfold updN at this
    rw [if_neg (by omega)] at this
    exact this
  · have := h i (by omega)
    unfold updN at this
    rw [if_pos rfl] at this
    rw [this, pk_m1]
theorem m1p1 (c : Nat) : nI c + (-1) + 1 = nI c := by
  rw [Int32.add_assoc, show (-1 : Int32) + 1 = 0 from by decide, Int32.add_zero]
theorem upN_next {t : Nat → Nat} {tl tl2 : Nat → Int32} {i : Nat} {x : Int32} (h : ∀ j, j < i → tl j = nI (t j)) (e : tl2 = upd tl i x) : ∀ j, j < i → tl2 j = nI (t j) := by
  intro j hj
  rw [e]
  unfold upd
  rw [if_neg (by omega)]
  exact h j hj
theorem upN_self {tl tl2 : Nat → Int32} {i : Nat} {x : Int32} (e : tl2 = upd tl i x) : tl2 i = x := by
  rw [e]
  unfold upd
  rw [if_pos rfl]
