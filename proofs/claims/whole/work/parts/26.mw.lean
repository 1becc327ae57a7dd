/-! THE REFERENCE'S CELLS -/
/-- the array s tells the board of n points P -/
def mdS (n : Nat) (P : Nat → Nat → Int32) (S : Nat → Int32) : Prop := S 0 = nI n ∧ ∀ i, i < n → ∀ k, k < 6 → S (1 + 6 * i + k) = mOf P i k
/-- the row of saved boards behind a save -/
def svF (q : Nat) (sv S : Nat → Int32) : Nat → Int32 := fun z =>
  if 49 * (if q < 6 then q else 5) ≤ z ∧ z < 49 * (if q < 6 then q else 5) + 49 then S (z - 49 * (if q < 6 then q else 5)) else if q < 6 then sv z else if z < 245 then sv (z + 49) else sv z
def gSet (P : Nat → Nat → Int32) (i k : Nat) (v : Int32) : Nat → Nat → Int32 := fun j q => if j = i ∧ q = k then v else P j q
theorem mdS_set {n i k : Nat} {P : Nat → Nat → Int32} {S S2 : Nat → Int32} {v : Int32} (hi : i < n) (hk : k < 5) (h : mdS n P S) (e : S2 = upd S (1 + 6 * i + k) v) : mdS n (gSet P i k v) S2 := by
  refine ⟨by rw [e]; unfold upd; rw [if_neg (by omega)]; exact h.1, fun j hj q hq => ?_⟩
  rw [e]
  unfold upd mOf gSet
  by_cases hjq : j = i ∧ q = k
  · have h5 : ¬ q = 5 := by omega
    rw [if_pos (by omega), if_neg h5, if_pos hjq]
  · rw [if_neg (by omega)]
    have h2 := h.2 j hj q hq
    unfold mOf at h2
    rw [h2]
    by_cases h5 : q = 5
    · rw [if_pos h5, if_pos h5, if_neg (by omega)]
    · rw [if_neg h5, if_neg h5, if_neg hjq]
theorem mdS_set5 {n i : Nat} {P : Nat → Nat → Int32} {S S2 : Nat → Int32} {v : Int32} (hi : i < n) (h : mdS n P S) (e : S2 = upd S (1 + 6 * i + 5) (v + 1)) : mdS n (gSet P i 5 v) S2 := by
  refine ⟨by rw [e]; unfold upd; rw [if_neg (by omega)]; exact h.1, fun j hj q hq => ?_⟩
  rw [e]
  unfold upd mOf gSet
  by_cases hjq : j = i ∧ q = 5
  · obtain ⟨rfl, rfl⟩ := hjq
    rw [if_pos rfl, if_pos rfl, if_pos ⟨rfl, rfl⟩]
  · rw [if_neg (by omega)]
    have h2 := h.2 j hj q hq
    unfold mOf at h2
    rw [h2]
    by_cases h5 : q = 5
    · rw [if_pos h5, if_pos h5, if_neg (by omega)]
    · rw [if_neg h5, if_neg h5, if_neg (by omega)]
theorem svF_shift {k : Nat} {sv sv1 sv2 : Nat → Int32} (hk : k < 245) (h : ∀ z, sv1 z = if z < k then sv (z + 49) else sv z) (e : sv2 = upd sv1 k (sv1 (k + 49))) : ∀ z, sv2 z = if z < k + 1 then sv (z + 49) else sv z := by
  intro z
  rw [e]
  unfold upd
  by_cases hz : z = k
  · rw [if_pos hz, if_pos (by omega), h, if_neg (by omega), hz]
  · rw [if_neg hz, h]
    by_cases hy : z < k
    · rw [if_pos hy, if_pos (by omega)]
    · rw [if_neg hy, if_neg (by omega)]
theorem svF_put {k b : Nat} {sv sv1 sv2 S : Nat → Int32} (h : ∀ z, sv1 z = if b ≤ z ∧ z < b + k then S (z - b) else sv z) (e : sv2 = upd sv1 (b + k) (S k)) : ∀ z, sv2 z = if b ≤ z ∧ z < b + (k + 1) then S (z - b) else sv z := by
  intro z
  rw [e]
  unfold upd
  by_cases hz : z = b + k
  · rw [if_pos hz, if_pos (by omega), hz, Nat.add_sub_cancel_left]
  · rw [if_neg hz, h]
    by_cases hy : b ≤ z ∧ z < b + k
    · rw [if_pos hy, if_pos (by omega)]
    · rw [if_neg hy, if_neg (by omega)]
theorem svF_a {q k : Nat} {sv sv1 S : Nat → Int32} (hq : q < 6) (hk : k = 49) (h : ∀ z, sv1 z = if 49 * q ≤ z ∧ z < 49 * q + k then S (z - 49 * q) else sv z) : sv1 = svF q sv S := by
  subst hk
  funext z
  unfold svF
  rw [h z]
  simp only [if_pos hq]
theorem svF_b {k k0 : Nat} {sv sv1 sv2 S : Nat → Int32} (hk : k = 49) (hk0 : k0 = 245) (h0 : ∀ z, sv1 z = if z < k0 then sv (z + 49) else sv z) (h : ∀ z, sv2 z = if 49 * 5 ≤ z ∧ z < 49 * 5 + k then S (z - 49 * 5) else sv1 z) : sv2 = svF 6 sv S := by
  subst hk
  subst hk0
  funext z
  unfold svF
  rw [h z, h0 z]
  simp only [if_neg (Nat.lt_irrefl 6)]
theorem ok4_in {y : Int32} (h : mIn y 0 3 = true) : ok4 y := by
  unfold mIn at h
  rw [decide_eq_true_iff] at h
  obtain ⟨j, hj, rfl⟩ := nI_of2 (M := 3) (n := 3) (by decide) (Int32.not_lt.mpr h.1) h.2
  exact ok4_nI (by omega)
theorem mIn_nat {y M : Int32} {m : Nat} (h : mIn y 0 M = true) (hM : M.toInt = m) : ∃ k, k ≤ m ∧ y = nI k := by
  unfold mIn at h
  rw [decide_eq_true_iff] at h
  exact nI_of2 hM (Int32.not_lt.mpr h.1) h.2
theorem mIn_rng {y a b : Int32} (h : mIn y a b = true) : a.toInt ≤ y.toInt ∧ y.toInt ≤ b.toInt := by
  unfold mIn at h
  rw [decide_eq_true_iff] at h
  exact ⟨Int32.le_iff_toInt_le.mp h.1, Int32.le_iff_toInt_le.mp h.2⟩
theorem bd_ok_resize {n i : Nat} {P : Nat → Nat → Int32} {y z : Int32} (hi : i < n) (h : bd_ok n P) (hy : mIn y 1 20 = true) (hz : mIn z 1 9 = true) : bd_ok n (gSet (gSet (gSet P i 2 y) i 3 z) i 5 (-1)) := by
  have h1 := mIn_rng hy
  have h2 := mIn_rng hz
  rw [show (1 : Int32).toInt = 1 from rfl, show (20 : Int32).toInt = 20 from rfl] at h1
  rw [show (1 : Int32).toInt = 1 from rfl, show (9 : Int32).toInt = 9 from rfl] at h2
  intro j hj
  obtain ⟨a0, a1, a2, a3, a4, a5⟩ := h j hj
  by_cases hji : j = i
  · subst hji
    refine ⟨by simpa [gSet] using a0, by simpa [gSet] using a1, by simpa [gSet] using h1, by simpa [gSet] using h2, by simpa [gSet] using a4, by simp [gSet]⟩
  · refine ⟨by simpa [gSet, hji] using a0, by simpa [gSet, hji] using a1, by simpa [gSet, hji] using a2, by simpa [gSet, hji] using a3, by simpa [gSet, hji] using a4, by simpa [gSet, hji] using a5⟩
theorem nI0_ne {x : Nat} (h : ¬ nI x = 0) : ¬ x = 0 := fun q => h (by rw [q]; rfl)
theorem nI0_eq {x : Nat} (hx : x < 2 ^ 31) (h : nI x = 0) : x = 0 := (nI_eq hx (by omega)).mp (show nI x = nI 0 from h)
