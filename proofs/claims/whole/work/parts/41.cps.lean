/-! ALL PLANS, one behind another: A i c tells whether the choice c is allowed for the point i (4: dropped) -/
def clP (P : Nat → Nat → Int32) (i c j d : Nat) : Bool := decide (0 < gSh P i (nI c) j (nI d))
def feB (A : Nat → Nat → Bool) (P : Nat → Nat → Int32) (i c : Nat) (t : Nat → Nat) : Bool := A i c && (decide (c = 4) || !gE i (fun j => decide (¬ t j = 4) && clP P j (t j) i c) 0)
def cps (A : Nat → Nat → Bool) (P : Nat → Nat → Int32) : Nat → Nat → (Nat → Nat) → List (Nat → Nat)
  | 0, _, t => [t]
  | d + 1, i, t => (List.range 5).flatMap (fun c => if feB A P i c t then cps A P d (i + 1) (updN t i c) else [])
def fB (w : (Nat → Nat) → Int) (z : Int × Option (Nat → Nat)) (t : Nat → Nat) : Int × Option (Nat → Nat) := if z.1 < w t then (w t, some t) else z
theorem gE_iff {n : Nat} {b : Nat → Bool} : ∀ (k i : Nat), i + k = n → (gE n b i = true ↔ ∃ j, i ≤ j ∧ j < n ∧ b j = true)
  | 0, i, h => by
    have h9 : n ≤ i := by omega
    rw [gE_end h9]
    constructor
    · intro q; exact absurd q (by decide)
    · rintro ⟨j, h1, h2, -⟩; omega
  | k + 1, i, h => by
    have h9 : i < n := by omega
    rw [gE_step h9, Bool.or_eq_true, gE_iff k (i + 1) (by omega)]
    constructor
    · rintro (q | ⟨j, h1, h2, h3⟩)
      · exact ⟨i, Nat.le_refl _, h9, q⟩
      · exact ⟨j, by omega, h2, h3⟩
    · rintro ⟨j, h1, h2, h3⟩
      by_cases hj : j = i
      · exact Or.inl (by rw [← hj]; exact h3)
      · exact Or.inr ⟨j, by omega, h2, h3⟩
theorem feB_iff {A : Nat → Nat → Bool} {P : Nat → Nat → Int32} {i c : Nat} {t : Nat → Nat} : feB A P i c t = true ↔ A i c = true ∧ (c = 4 ∨ ∀ j, j < i → t j = 4 ∨ clP P j (t j) i c = false) := by
  unfold feB
  rw [Bool.and_eq_true, Bool.or_eq_true, decide_eq_true_iff, Bool.not_eq_true']
  refine and_congr Iff.rfl (or_congr Iff.rfl ?_)
  rw [← Bool.not_eq_true, gE_iff i 0 (by omega)]
  constructor
  · intro h j hj
    by_cases h4 : t j = 4
    · exact Or.inl h4
    · refine Or.inr ?_
      cases hc : clP P j (t j) i c with
      | false => rfl
      | true => exact absurd ⟨j, Nat.zero_le j, hj, by simp [h4, hc]⟩ h
  · rintro h ⟨j, -, hj, hb⟩
    rw [Bool.and_eq_true, decide_eq_true_iff] at hb
    rcases h j hj with q | q
    · exact hb.1 q
    · rw [q] at hb; exact absurd hb.2 (by decide)
theorem cps_mem {A : Nat → Nat → Bool} {P : Nat → Nat → Int32} {d i : Nat} {t u : Nat → Nat} : u ∈ cps A P (d + 1) i t ↔ ∃ c, c < 5 ∧ feB A P i c t = true ∧ u ∈ cps A P d (i + 1) (updN t i c) := by
  rw [cps, List.mem_flatMap]
  constructor
  · rintro ⟨c, hc, hu⟩
    rw [List.mem_range] at hc
    cases hf : feB A P i c t with
    | true => rw [hf, if_pos rfl] at hu; exact ⟨c, hc, hf, hu⟩
    | false => rw [hf, if_neg (by decide)] at hu; exact absurd hu List.not_mem_nil
  · rintro ⟨c, hc, hf, hu⟩
    exact ⟨c, List.mem_range.mpr hc, by rw [hf, if_pos rfl]; exact hu⟩
theorem updN_ne {t : Nat → Nat} {i c j : Nat} (h : ¬ j = i) : updN t i c j = t j := by unfold updN; rw [if_neg h]
theorem updN_eq {t : Nat → Nat} {i c : Nat} : updN t i c i = c := by unfold updN; rw [if_pos rfl]
theorem cps_pre {A : Nat → Nat → Bool} {P : Nat → Nat → Int32} : ∀ (d i : Nat) (t u : Nat → Nat), u ∈ cps A P d i t → (∀ j, j < i → u j = t j) ∧ (∀ j, i ≤ j → j < i + d → u j < 5 ∧ A j (u j) = true)
  | 0, i, t, u, h => by
    rw [cps, List.mem_singleton] at h
    subst h
    exact ⟨fun _ _ => rfl, fun j h1 h2 => absurd h2 (by omega)⟩
  | d + 1, i, t, u, h => by
    obtain ⟨c, hc, hf, hu⟩ := cps_mem.mp h
    obtain ⟨h1, h2⟩ := cps_pre d (i + 1) _ u hu
    refine ⟨fun j hj => ?_, fun j hj1 hj2 => ?_⟩
    · rw [h1 j (by omega), updN_ne (by omega)]
    · by_cases hji : j = i
      · subst hji
        rw [h1 j (by omega), updN_eq]
        exact ⟨hc, (feB_iff.mp hf).1⟩
      · exact h2 j (by omega) (by omega)
/-- sums of gains -/
def scS (g : Nat → Nat → Int) : Nat → (Nat → Nat) → Int
  | 0, _ => 0
  | m + 1, u => scS g m u + g m (u m)
theorem scS_congr {g : Nat → Nat → Int} : ∀ (m : Nat) (u v : Nat → Nat), (∀ j, j < m → u j = v j) → scS g m u = scS g m v
  | 0, _, _, _ => rfl
  | m + 1, u, v, h => by
    rw [scS, scS, scS_congr m u v (fun j hj => h j (by omega)), h m (by omega)]
theorem scS_upd {g : Nat → Nat → Int} {i k : Nat} {u : Nat → Nat} (hg : g i (u i) ≤ g i k) : ∀ (m : Nat), scS g m u ≤ scS g m (updN u i k)
  | 0 => Int.le_refl _
  | m + 1 => by
    rw [scS, scS]
    have h1 := scS_upd hg m
    by_cases hm : m = i
    · subst hm
      rw [updN_eq]
      omega
    · rw [updN_ne hm]
      omega
/-- folds of the best -/
theorem fB_none {w : (Nat → Nat) → Int} : ∀ (L : List (Nat → Nat)) (z : Int × Option (Nat → Nat)), (∀ t ∈ L, w t ≤ z.1) → L.foldl (fB w) z = z
  | [], z, _ => rfl
  | t :: L, z, h => by
    have h1 : fB w z t = z := by
      unfold fB
      rw [if_neg (by have := h t List.mem_cons_self; omega)]
    rw [List.foldl_cons, h1]
    exact fB_none L z (fun u hu => h u (List.mem_cons_of_mem _ hu))
theorem fB_ge {w : (Nat → Nat) → Int} : ∀ (L : List (Nat → Nat)) (z : Int × Option (Nat → Nat)), z.1 ≤ (L.foldl (fB w) z).1 ∧ ∀ t ∈ L, w t ≤ (L.foldl (fB w) z).1
  | [], z => ⟨Int.le_refl _, fun t h => absurd h List.not_mem_nil⟩
  | t :: L, z => by
    obtain ⟨h1, h2⟩ := fB_ge (w := w) L (fB w z t)
    have h3 : z.1 ≤ (fB w z t).1 ∧ w t ≤ (fB w z t).1 := by
      unfold fB
      split
      · exact ⟨by show z.1 ≤ w t; omega, Int.le_refl _⟩
      · exact ⟨Int.le_refl _, by omega⟩
    rw [List.foldl_cons]
    refine ⟨by omega, fun u hu => ?_⟩
    rcases List.mem_cons.mp hu with q | q
    · subst q; omega
    · exact h2 u q
theorem fB_dom {w : (Nat → Nat) → Int} {L M : List (Nat → Nat)} {z : Int × Option (Nat → Nat)} (h : ∀ b ∈ M, ∃ a ∈ L, w b ≤ w a) : (L ++ M).foldl (fB w) z = L.foldl (fB w) z := by
  rw [List.foldl_append]
  refine fB_none M _ (fun b hb => ?_)
  obtain ⟨a, ha, hab⟩ := h b hb
  have := (fB_ge (w := w) L z).2 a ha
  omega
/-- the choices of one point from k on -/
def cpk (A : Nat → Nat → Bool) (P : Nat → Nat → Int32) (d i : Nat) (t : Nat → Nat) : Nat → Nat → List (Nat → Nat)
  | 0, _ => []
  | r + 1, k => (if feB A P i k t then cps A P d (i + 1) (updN t i k) else []) ++ cpk A P d i t r (k + 1)
theorem cpk_all (A : Nat → Nat → Bool) (P : Nat → Nat → Int32) (d i : Nat) (t : Nat → Nat) : cps A P (d + 1) i t = cpk A P d i t 5 0 := by
  rw [cps]
  show (List.range 5).flatMap _ = _
  simp only [cpk, List.range, List.range.loop, List.flatMap_cons, List.flatMap_nil]
theorem cpk_mem {A : Nat → Nat → Bool} {P : Nat → Nat → Int32} {d i : Nat} {t u : Nat → Nat} : ∀ (r k : Nat), u ∈ cpk A P d i t r k ↔ ∃ c, k ≤ c ∧ c < k + r ∧ feB A P i c t = true ∧ u ∈ cps A P d (i + 1) (updN t i c)
  | 0, k => by
    rw [cpk]
    constructor
    · intro h; exact absurd h List.not_mem_nil
    · rintro ⟨c, h1, h2, -⟩; omega
  | r + 1, k => by
    rw [cpk, List.mem_append, cpk_mem r (k + 1)]
    constructor
    · rintro (h | ⟨c, h1, h2, h3⟩)
      · cases hf : feB A P i k t with
        | true => rw [hf, if_pos rfl] at h; exact ⟨k, Nat.le_refl _, by omega, hf, h⟩
        | false => rw [hf, if_neg (by decide)] at h; exact absurd h List.not_mem_nil
      · exact ⟨c, by omega, by omega, h3⟩
    · rintro ⟨c, h1, h2, h3, h4⟩
      by_cases hck : c = k
      · subst hck
        exact Or.inl (by rw [h3, if_pos rfl]; exact h4)
      · exact Or.inr ⟨c, by omega, by omega, h3, h4⟩
/-- a choice that blocks nothing new may stand in for another -/
theorem cps_swap {A : Nat → Nat → Bool} {P : Nat → Nat → Int32} {n i k : Nat} (hk : k < 4) {t : Nat → Nat} (hb : ∀ j, i < j → j < n → ∀ q, q < 4 → A j q = true → clP P i k j q = true → ∃ i', i' < i ∧ ¬ t i' = 4 ∧ clP P i' (t i') j q = true) :
    ∀ (d j : Nat) (t2 u : Nat → Nat), i < j → j + d = n → (∀ q, q < i → t2 q = t q) → u ∈ cps A P d j t2 → updN u i k ∈ cps A P d j (updN t2 i k)
  | 0, j, t2, u, hij, hjn, ht, h => by
    rw [cps, List.mem_singleton] at h
    subst h
    rw [cps]
    exact List.mem_singleton.mpr rfl
  | d + 1, j, t2, u, hij, hjn, ht, h => by
    obtain ⟨c, hc, hf, hu⟩ := cps_mem.mp h
    refine cps_mem.mpr ⟨c, hc, ?_, ?_⟩
    · obtain ⟨h1, h2⟩ := feB_iff.mp hf
      refine feB_iff.mpr ⟨h1, ?_⟩
      rcases h2 with h2 | h2
      · exact Or.inl h2
      · by_cases hc4 : c = 4
        · exact Or.inl hc4
        · refine Or.inr (fun q hq => ?_)
          by_cases hqi : q = i
          · subst hqi
            rw [updN_eq]
            refine Or.inr ?_
            cases hcl : clP P q k j c with
            | false => rfl
            | true =>
              obtain ⟨i', e1, e2, e3⟩ := hb j hij (by omega) c (by omega) h1 hcl
              rcases h2 i' (by omega) with z | z
              · exact absurd (by rw [← ht i' e1]; exact z) e2
              · rw [ht i' e1, e3] at z; exact absurd z (by decide)
          · rw [updN_ne hqi]
            exact h2 q hq
    · have e : updN (updN t2 i k) j c = updN (updN t2 j c) i k := by
        funext q
        unfold updN
        by_cases h1 : q = j
        · rw [if_pos h1, if_neg (by omega), if_pos h1]
        · rw [if_neg h1]
          by_cases h2 : q = i
          · rw [if_pos h2, if_pos h2]
          · rw [if_neg h2, if_neg h2, if_neg h1]
      rw [e]
      exact cps_swap hk hb d (j + 1) (updN t2 j c) u (by omega) (by omega) (fun q hq => by rw [updN_ne (by omega)]; exact ht q hq) hu
