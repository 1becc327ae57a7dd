def alH (n : Nat) (P : Nat → Nat → Int32) (wo : Int32) (i : Nat) : Int32 := if nI i = wo then 16 else gMk n P i ||| 16
def alR (n : Nat) (P : Nat → Nat → Int32) (w : Nat) (i : Nat) : Int32 := if i = w ∨ ¬ P i 5 = -1 then gMk n P i else 16
def alF (n : Nat) (P : Nat → Nat → Int32) (i : Nat) : Int32 := if gMk n P i = 0 then 16 else gMk n P i
def mHv (n : Nat) (P : Nat → Nat → Int32) (wo : Int32) (pl : Nat → Int32) : St2 := srM 0 n (alH n P wo) P n 0 (fun _ => 0) (-1, pl)
def mRm (n : Nat) (P : Nat → Nat → Int32) (w : Nat) (pl : Nat → Int32) : St2 := srM 1 n (alR n P w) P n 0 (fun _ => 0) (-1, pl)
def mFu (n : Nat) (P : Nat → Nat → Int32) (pl : Nat → Int32) : St2 := srM 2 n (alF n P) P n 0 (fun _ => 0) (0, pl)
theorem srL_congr {f g : (Nat → Nat) → St2 → St2} {m n i : Nat} {a b : Nat → Int32} {P : Nat → Nat → Int32} (hf : ∀ t z, f t z = g t z) (hi : a i = b i) : ∀ (r c : Nat) (t : Nat → Nat) (z : St2), srL f m n a P i r c t z = srL g m n b P i r c t z
  | 0, c, t, z => rfl
  | r + 1, c, t, z => by
    have e : mFit a P (updN t i c) i = mFit b P (updN t i c) i := by unfold mFit; rw [hi]
    rw [srL, srL, e, hf, srL_congr hf hi r (c + 1), srL_congr hf hi r (c + 1)]
theorem srM_congr {m n : Nat} {a b : Nat → Int32} {P : Nat → Nat → Int32} (h : ∀ i, i < n → a i = b i) : ∀ (d i : Nat), i + d = n → ∀ (t : Nat → Nat) (z : St2), srM m n a P d i t z = srM m n b P d i t z
  | 0, i, hid, t, z => rfl
  | d + 1, i, hid, t, z => by
    rw [srM, srM]
    exact srL_congr (fun t' z' => srM_congr h d (i + 1) (by omega) t' z') (h i (by omega)) 5 0 t z
def alI (q : Nat) (g al : Nat → Int32) : Prop := ∀ j, j < q → al j = g j
theorem alI_step {i : Nat} {g a a2 : Nat → Int32} {x : Int32} (h : alI i g a) (e : a2 = upd a i x) (hx : x = g i) : alI (i + 1) g a2 := by
  intro j hj
  rw [e]
  unfold upd
  by_cases hji : j = i
  · rw [if_pos hji, hx, hji]
  · rw [if_neg hji]
    exact h j (by omega)
theorem srM_al {m n i : Nat} {a g : Nat → Int32} {P : Nat → Nat → Int32} {z : St2} (h : alI i g a) (hi : n ≤ i) : srM m n a P n 0 (fun _ => 0) z = srM m n g P n 0 (fun _ => 0) z := srM_congr (fun j hj => h j (by omega)) n 0 (by omega) _ _
/-- the labels laid as the plan tells -/
def mLy (P : Nat → Nat → Int32) (pl : Nat → Int32) (i k : Nat) : Int32 := if k = 5 then (if pl i = 4 then -1 else pl i) else P i k
def mLq (P : Nat → Nat → Int32) (pl : Nat → Int32) (q : Nat) : Nat → Nat → Int32 := fun i k => if i < q then mLy P pl i k else P i k
theorem mLq_init {n : Nat} {P : Nat → Nat → Int32} {pl S : Nat → Int32} (h : mdS n P S) : mdS n (mLq P pl 0) S := by
  refine ⟨h.1, fun i hi k hk => ?_⟩
  rw [h.2 i hi k hk]
  unfold mOf mLq
  simp
theorem mdS_ext {n : Nat} {P Q : Nat → Nat → Int32} {S : Nat → Int32} (h : mdS n P S) (e : ∀ i, i < n → ∀ k, P i k = Q i k) : mdS n Q S := by
  refine ⟨h.1, fun i hi k hk => ?_⟩
  rw [h.2 i hi k hk]
  unfold mOf
  rw [e i hi, e i hi]
theorem mLq_step {n i : Nat} {P : Nat → Nat → Int32} {pl S S2 : Nat → Int32} (hi : i < n) (h : mdS n (mLq P pl i) S) (e : S2 = upd S (1 + 6 * i + 5) ((if pl i = 4 then -1 else pl i) + 1)) : mdS n (mLq P pl (i + 1)) S2 := by
  refine mdS_ext (mdS_set5 hi h e) (fun j hj k => ?_)
  unfold gSet
  by_cases hq : j = i ∧ k = 5
  · obtain ⟨rfl, rfl⟩ := hq
    rw [if_pos ⟨rfl, rfl⟩]
    have e9 : mLq P pl (j + 1) j 5 = mLy P pl j 5 := by unfold mLq; exact if_pos (by omega)
    rw [e9]
    rfl
  · rw [if_neg hq]
    unfold mLq
    by_cases hji : j = i
    · subst hji
      rw [if_neg (Nat.lt_irrefl j), if_pos (by omega)]
      unfold mLy
      rw [if_neg (by omega)]
    · by_cases hlt : j < i
      · rw [if_pos hlt, if_pos (by omega)]
      · rw [if_neg hlt, if_neg (by omega)]
theorem mLq_fin {n i : Nat} {P : Nat → Nat → Int32} {pl S : Nat → Int32} (hi : n ≤ i) (h : mdS n (mLq P pl i) S) : mdS n (mLy P pl) S := by
  refine mdS_ext h (fun j hj k => ?_)
  unfold mLq
  rw [if_pos (by omega)]
def mMr (n : Nat) (P : Nat → Nat → Int32) (w : Nat) (pl : Nat → Int32) : Int32 := if P w 5 = -1 then (mRm n P w pl).1 else -1
theorem mrz {i w : Nat} : (i = w) = (i = w) := rfl
theorem mMr_ne {n w : Nat} {P : Nat → Nat → Int32} {pl : Nat → Int32} (h : ¬ mMr n P w pl = -1) : P w 5 = -1 := by
  unfold mMr at h
  split at h
  · assumption
  · exact absurd rfl h
theorem srL_fst {f : (Nat → Nat) → St2 → St2} {m n i : Nat} {a : Nat → Int32} {P : Nat → Nat → Int32} (hf : ∀ t z z', z.1 = z'.1 → (f t z).1 = (f t z').1) : ∀ (r c : Nat) (t : Nat → Nat) (z z' : St2), z.1 = z'.1 → (srL f m n a P i r c t z).1 = (srL f m n a P i r c t z').1
  | 0, c, t, z, z', h => h
  | r + 1, c, t, z, z', h => by
    rw [srL, srL, h]
    split
    · exact srL_fst hf r (c + 1) t _ _ (hf _ z z' h)
    · exact srL_fst hf r (c + 1) t _ _ h
theorem srM_fst {m n : Nat} {a : Nat → Int32} {P : Nat → Nat → Int32} : ∀ (d i : Nat) (t : Nat → Nat) (z z' : St2), z.1 = z'.1 → (srM m n a P d i t z).1 = (srM m n a P d i t z').1
  | 0, i, t, z, z', h => by
    rw [srM, srM]
    unfold mLk
    rw [h]
    split
    · rfl
    · split
      · rfl
      · exact h
  | d + 1, i, t, z, z', h => by
    rw [srM, srM]
    exact srL_fst (fun t z z' h => srM_fst d (i + 1) t z z' h) 5 0 t z z' h
theorem mHv_pl (n : Nat) (P : Nat → Nat → Int32) (wo : Int32) (pl pl' : Nat → Int32) : (mHv n P wo pl).1 = (mHv n P wo pl').1 := srM_fst n 0 _ _ _ rfl
def gPf (f : Nat → Int32 × Int32 → Int32 × Int32) : Nat → Nat → Int32 × Int32 → Int32 × Int32
  | 0, _, a => a
  | k + 1, i, a => gPf f k (i + 1) (f i a)
def gP (n : Nat) (f : Nat → Int32 × Int32 → Int32 × Int32) (i : Nat) (a : Int32 × Int32) : Int32 × Int32 := gPf f (n - i) i a
theorem gP_step {n i : Nat} {f : Nat → Int32 × Int32 → Int32 × Int32} {a : Int32 × Int32} (h : i < n) : gP n f i a = gP n f (i + 1) (f i a) := by
  unfold gP
  rw [show n - i = (n - (i + 1)) + 1 by omega]
  rfl
theorem gP_end {n i : Nat} {f : Nat → Int32 × Int32 → Int32 × Int32} {a : Int32 × Int32} (h : n ≤ i) : gP n f i a = a := by
  unfold gP
  rw [show n - i = 0 by omega]
  rfl
/-- the weight of the heaviest plan without a point -/
def hvW (n : Nat) (P : Nat → Nat → Int32) (wo : Int32) : Int32 := (mHv n P wo (fun _ => 0)).1
theorem hvW_eq (n : Nat) (P : Nat → Nat → Int32) (wo : Int32) (pl : Nat → Int32) : (mHv n P wo pl).1 = hvW n P wo := mHv_pl n P wo pl _
def mDrF (n : Nat) (P : Nat → Nat → Int32) (i : Nat) (z : Int32 × Int32) : Int32 × Int32 :=
  if z.2 < P i 4 + hvW n P (nI i) then (nI i, P i 4 + hvW n P (nI i)) else z
def mDear (n : Nat) (P : Nat → Nat → Int32) : Int32 := (gP n (mDrF n P) 0 (-1, 0)).1
