/-! findTop's tables -/
def gHp (mg : Nat → Int32) : Nat → Nat → Int32
  | 0, _ => 0
  | d + 1, i => gHp mg d (i + 1) + mg i
def topH (mg : Nat → Int32) (n i : Nat) : Int32 := gHp mg (n - i) i
theorem topH_end {mg : Nat → Int32} {n i : Nat} (h : n ≤ i) : topH mg n i = 0 := by
  unfold topH
  rw [show n - i = 0 by omega, gHp]
theorem topH_step {mg : Nat → Int32} {n i : Nat} (h : i < n) : topH mg n i = topH mg n (i + 1) + mg i := by
  unfold topH
  rw [show n - i = (n - (i + 1)) + 1 by omega, gHp]
def gSp (aA : Nat → Int32) : Nat → Nat → Int32
  | 0, _ => 0
  | d + 1, i => gSp aA d (i + 1) ||| (aA i <<< (nI (i * 4) &&& 31))
def topS (aA : Nat → Int32) (n i : Nat) : Int32 := gSp aA (n - i) i
theorem topS_end {aA : Nat → Int32} {n i : Nat} (h : n ≤ i) : topS aA n i = 0 := by
  unfold topS
  rw [show n - i = 0 by omega, gSp]
theorem topS_step {aA : Nat → Int32} {n i : Nat} (h : i < n) : topS aA n i = topS aA n (i + 1) ||| (aA i <<< (nI (i * 4) &&& 31)) := by
  unfold topS
  rw [show n - i = (n - (i + 1)) + 1 by omega, gSp]
def topOk (n : Nat) (aA aG : Nat → Int32) (kS : Int32) (aT aH : Nat → Int32) : Prop := kS = topS aA n 0 ∧ (∀ j, j < n → aT j = gMG aA aG j) ∧ ∀ j, j ≤ n → aH j = topH (gMG aA aG) n j
theorem topq_pos {q : Nat} (c : ¬ nI q + (-1) < 0) : ∃ i, q = i + 1 ∧ nI q + (-1) = nI i := by
  cases q with
  | zero => exact absurd (by decide) c
  | succ i => exact ⟨i, rfl, pk_m1 i⟩
theorem topq_zero {q : Nat} (hq : q < 100) (c : nI q + (-1) < 0) : q = 0 := by
  cases q with
  | zero => rfl
  | succ i => rw [pk_m1] at c; exact absurd c (nI_pos (by omega))
def topI (n : Nat) (aA aG : Nat → Int32) (q : Nat) (kS : Int32) (aT aH : Nat → Int32) : Prop := kS = topS aA n q ∧ (∀ j, q ≤ j → j < n → aT j = gMG aA aG j) ∧ ∀ j, q ≤ j → j ≤ n → aH j = topH (gMG aA aG) n j
theorem topI_init {n : Nat} {aA aG aT aH aH2 : Nat → Int32} (e : aH2 = upd aH n 0) : topI n aA aG n 0 aT aH2 := by
  refine ⟨(topS_end (Nat.le_refl n)).symm, fun j h1 h2 => absurd h2 (by omega), fun j h1 h2 => ?_⟩
  rw [e]
  unfold upd
  rw [if_pos (by omega), topH_end h1]
theorem topI_step {n i : Nat} {aA aG aT aH aT2 aH2 : Nat → Int32} {kS : Int32} (hi : i + 1 ≤ n) (h : topI n aA aG (i + 1) kS aT aH) (e1 : aT2 = upd aT i (gMG aA aG i)) (e2 : aH2 = upd aH i (aH (i + 1) + aT2 i)) : topI n aA aG i (kS ||| (aA i <<< (nI (i * 4) &&& 31))) aT2 aH2 := by
  obtain ⟨h1, h2, h3⟩ := h
  have ei : aT2 i = gMG aA aG i := by rw [e1]; unfold upd; rw [if_pos rfl]
  refine ⟨by rw [topS_step (by omega), h1], fun j q1 q2 => ?_, fun j q1 q2 => ?_⟩
  · by_cases hj : j = i
    · rw [hj, ei]
    · rw [e1]
      unfold upd
      rw [if_neg hj]
      exact h2 j (by omega) q2
  · rw [e2]
    unfold upd
    by_cases hj : j = i
    · rw [if_pos hj, hj, topH_step (by omega), ei, h3 (i + 1) (Nat.le_refl _) hi]
    · rw [if_neg hj]
      exact h3 j (by omega) q2
theorem topI_fin {n : Nat} {aA aG aT aH : Nat → Int32} {kS : Int32} (h : topI n aA aG 0 kS aT aH) : topOk n aA aG kS aT aH := ⟨h.1, fun j hj => h.2.1 j (Nat.zero_le j) hj, fun j hj => h.2.2 j (Nat.zero_le j) hj⟩
/-- what findHeaviest lays down, up to a point -/
def fhI (q : Nat) (aO aW : Nat → Int32) (wo : Int32) (aA aM aG : Nat → Int32) : Prop := ∀ j, j < q → aA j = (if nI j = wo then 0 else aO j) ∧ aM j = 1 ∧ ∀ k, k < 4 → aG (j * 4 + k) = aW j
def fhG (i k : Nat) (v : Int32) (aG aG2 : Nat → Int32) : Prop := ∀ z, aG2 z = if i * 4 ≤ z ∧ z < i * 4 + k then v else aG z
theorem fhG_init {i : Nat} {v : Int32} {aG : Nat → Int32} : fhG i 0 v aG aG := fun z => by rw [if_neg (by omega)]
theorem fhG_step {i k : Nat} {v : Int32} {aG aG2 aG3 : Nat → Int32} (h : fhG i k v aG aG2) (e : aG3 = upd aG2 (i * 4 + k) v) : fhG i (k + 1) v aG aG3 := by
  intro z
  rw [e]
  unfold upd
  by_cases hz : z = i * 4 + k
  · rw [if_pos hz, if_pos (by omega)]
  · rw [if_neg hz, h z]
    by_cases hy : i * 4 ≤ z ∧ z < i * 4 + k
    · rw [if_pos hy, if_pos (by omega)]
    · rw [if_neg hy, if_neg (by omega)]
theorem fhI_step {i : Nat} {aO aW : Nat → Int32} {wo : Int32} {aA aM aG aA2 aM2 aG2 : Nat → Int32} (h : fhI i aO aW wo aA aM aG) (e1 : aA2 = upd aA i (if nI i = wo then 0 else aO i)) (e2 : aM2 = upd aM i (bI true)) {k : Nat} (hk : 4 ≤ k) (hk4 : k ≤ 4) (h3 : fhG i k (aW i) aG aG2) : fhI (i + 1) aO aW wo aA2 aM2 aG2 := by
  have hk5 : k = 4 := by omega
  subst hk5
  intro j hj
  by_cases hji : j = i
  · subst hji
    refine ⟨by rw [e1]; unfold upd; rw [if_pos rfl], by rw [e2]; unfold upd; rw [if_pos rfl]; rfl, fun k hk => ?_⟩
    rw [h3, if_pos (by omega)]
  · obtain ⟨h5, h6, h7⟩ := h j (by omega)
    refine ⟨by rw [e1]; unfold upd; rw [if_neg hji, h5], by rw [e2]; unfold upd; rw [if_neg hji, h6], fun k hk => ?_⟩
    rw [h3, if_neg (by omega)]
    exact h7 k hk
/-- what findRoom lays down -/
def frS (aN : Nat → Int32) (w j : Nat) : Bool := decide (j = w) || decide (¬ aN j = -1)
def frI (q : Nat) (aO aN : Nat → Int32) (w : Nat) (aA aM aG : Nat → Int32) : Prop := ∀ j, j < q → aA j = (if frS aN w j then aO j else 0) ∧ aM j = bI (!frS aN w j) ∧ ∀ k, k < 4 → aG (j * 4 + k) = (if aN j = nI k then 1 else 0)
def frG (i k : Nat) (aN : Nat → Int32) (aG aG2 : Nat → Int32) : Prop := (∀ k2, k2 < k → k2 < 4 → aG2 (i * 4 + k2) = if aN i = nI k2 then 1 else 0) ∧ ∀ z, ¬ (i * 4 ≤ z ∧ z < i * 4 + 4) → aG2 z = aG z
theorem frG_init {i : Nat} {aN aG : Nat → Int32} : frG i 0 aN aG aG := ⟨fun k h => absurd h (by omega), fun z _ => rfl⟩
theorem frG_step {i k : Nat} {aN aG aG2 aG3 : Nat → Int32} {x : Int32} (hk : k < 4) (h : frG i k aN aG aG2) (e : aG3 = upd aG2 (i * 4 + k) x) (hx : x = if aN i = nI k then 1 else 0) : frG i (k + 1) aN aG aG3 := by
  refine ⟨fun k2 h1 h2 => ?_, fun z hz => ?_⟩
  · rw [e]
    unfold upd
    by_cases hq : k2 = k
    · rw [if_pos (by omega), hx, hq]
    · rw [if_neg (by omega)]
      exact h.1 k2 (by omega) h2
  · rw [e]
    unfold upd
    rw [if_neg (by omega)]
    exact h.2 z hz
theorem frI_step {i w : Nat} {aO aN : Nat → Int32} {aA aM aG aA2 aM2 aG2 : Nat → Int32} (h : frI i aO aN w aA aM aG) (e1 : aA2 = upd aA i (if frS aN w i then aO i else 0)) (e2 : aM2 = upd aM i (bI (!frS aN w i))) {k : Nat} (hk : 4 ≤ k) (h3 : frG i k aN aG aG2) : frI (i + 1) aO aN w aA2 aM2 aG2 := by
  intro j hj
  by_cases hji : j = i
  · subst hji
    refine ⟨by rw [e1]; unfold upd; rw [if_pos rfl], by rw [e2]; unfold upd; rw [if_pos rfl], fun k2 hk2 => ?_⟩
    exact h3.1 k2 (by omega) hk2
  · obtain ⟨h5, h6, h7⟩ := h j (by omega)
    refine ⟨by rw [e1]; unfold upd; rw [if_neg hji, h5], by rw [e2]; unfold upd; rw [if_neg hji, h6], fun k2 hk2 => ?_⟩
    rw [h3.2 _ (by omega)]
    exact h7 k2 hk2
def frNF (aN : Nat → Int32) (i : Nat) (a : Int32) : Int32 := if aN i = -1 then a else a + 1
