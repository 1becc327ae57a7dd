/-! WHAT HOLDS OF EVERY BOARD: the labels that stand are at open corners, no two of them clash -/
section INV
variable {n : Nat} {P Q : Nat → Nat → Int32}
def bd_gd (n : Nat) (P : Nat → Nat → Int32) : Prop := ∀ i, i < n → ¬ P i 5 = -1 → gOp n P i (P i 5) = true ∧ ∀ j, j < n → ¬ j = i → ¬ P j 5 = -1 → gSh P i (P i 5) j (P j 5) = 0
theorem gS_full {b : Nat → Bool} {g : Nat → Int32} {z : Int32} : ∀ (k i : Nat), i + k = n → (gS n b g z i = z ∧ ∀ q, i ≤ q → q < n → b q = false) ∨ ∃ j, i ≤ j ∧ j < n ∧ b j = true ∧ gS n b g z i = g j ∧ ∀ q, i ≤ q → q < j → b q = false
  | 0, i, h => Or.inl ⟨gS_end (by omega), fun q h1 h2 => absurd h2 (by omega)⟩
  | k + 1, i, h => by
    have hi : i < n := by omega
    rw [gS_step hi]
    cases hb : b i with
    | true => exact Or.inr ⟨i, Nat.le_refl _, hi, hb, by rw [if_pos rfl], fun q h1 h2 => absurd h2 (by omega)⟩
    | false =>
      rw [if_neg (by decide)]
      rcases gS_full (b := b) (g := g) (z := z) k (i + 1) (by omega) with ⟨h1, h2⟩ | ⟨j, h1, h2, h3, h4, h5⟩
      · refine Or.inl ⟨h1, fun q a1 a2 => ?_⟩
        by_cases hq : q = i
        · rw [hq]; exact hb
        · exact h2 q (by omega) a2
      · refine Or.inr ⟨j, by omega, h2, h3, h4, fun q a1 a2 => ?_⟩
        by_cases hq : q = i
        · rw [hq]; exact hb
        · exact h5 q (by omega) a2
theorem gOp_iff {i : Nat} {c : Int32} : gOp n P i c = true ↔ gOpM P i c = true ∧ ∀ j, j < n → gHit P i c j = false := by
  unfold gOp
  rw [Bool.and_eq_true, Bool.not_eq_true', ← Bool.not_eq_true, gE_iff n 0 (by omega)]
  refine and_congr Iff.rfl ⟨fun h j hj => ?_, fun h => ?_⟩
  · cases hb : gHit P i c j with
    | false => rfl
    | true => exact absurd ⟨j, Nat.zero_le j, hj, hb⟩ h
  · rintro ⟨j, -, hj, hb⟩
    rw [h j hj] at hb
    exact absurd hb (by decide)
theorem cov_sh (h : bd_ok n P) {i j : Nat} (hi : i < n) (hj : j < n) {c d x y : Int32} (h1 : gCov P i c x y = true) (h2 : gCov P j d x y = true) : 0 < gSh P i c j d := by
  have r1 := gL_rng h hi c
  have r2 := gT_rng h hi c
  have r3 := gL_rng h hj d
  have r4 := gT_rng h hj d
  obtain ⟨-, -, w1, v1, -⟩ := h i hi
  obtain ⟨-, -, w2, v2, -⟩ := h j hj
  have a1 := (mAc_ti (a := gL P i c) (la := P i 2) (b := gL P j d) (lb := P j 2) (by omega) (by omega) (by omega) (by omega)).2
  have a2 := (mAc_ti (a := gT P i c) (la := P i 3) (b := gT P j d) (lb := P j 3) (by omega) (by omega) (by omega) (by omega)).2
  have e1 := (ti_end (a := gL P i c) (b := P i 2) (by omega) (by omega) (by omega) (by omega)).2
  have e2 := (ti_end (a := gT P i c) (b := P i 3) (by omega) (by omega) (by omega) (by omega)).2
  have e3 := (ti_end (a := gL P j d) (b := P j 2) (by omega) (by omega) (by omega) (by omega)).2
  have e4 := (ti_end (a := gT P j d) (b := P j 3) (by omega) (by omega) (by omega) (by omega)).2
  unfold gCov at h1 h2
  rw [decide_eq_true_iff] at h1 h2
  simp only [Int32.le_iff_toInt_le, Int32.lt_iff_toInt_lt, e1, e2, e3, e4] at h1 h2
  have b1 : 1 ≤ (gLen (gL P i c) (P i 2) (gL P j d) (P j 2)).toInt ∧ (gLen (gL P i c) (P i 2) (gL P j d) (P j 2)).toInt ≤ 20 := by omega
  have b2 : 1 ≤ (gLen (gT P i c) (P i 3) (gT P j d) (P j 3)).toInt ∧ (gLen (gT P i c) (P i 3) (gT P j d) (P j 3)).toInt ≤ 9 := by omega
  have p1 : 0 < (gLen (gL P i c) (P i 2) (gL P j d) (P j 2)).toInt * (gLen (gT P i c) (P i 3) (gT P j d) (P j 3)).toInt := Int.mul_pos (by omega) (by omega)
  have p2 : (gLen (gL P i c) (P i 2) (gL P j d) (P j 2)).toInt * (gLen (gT P i c) (P i 3) (gT P j d) (P j 3)).toInt ≤ 20 * 9 := Int.mul_le_mul b1.2 b2.2 (by omega) (by omega)
  unfold gSh
  rw [Int32.lt_iff_toInt_lt, ti_0, ti_mul (by omega) (by omega)]
  exact p1
theorem gd_one (h : bd_ok n P) (hg : bd_gd n P) {i j : Nat} (hi : i < n) (hj : j < n) {x y : Int32} (s1 : ¬ P i 5 = -1) (s2 : ¬ P j 5 = -1) (h1 : gCov P i (P i 5) x y = true) (h2 : gCov P j (P j 5) x y = true) : i = j := by
  rcases Nat.lt_trichotomy i j with q | q | q
  · have := cov_sh h hi hj h1 h2
    rw [(hg i hi s1).2 j hj (by omega) s2] at this
    exact absurd this (by decide)
  · exact q
  · have := cov_sh h hi hj h1 h2
    rw [(hg i hi s1).2 j hj (by omega) s2] at this
    exact absurd this (by decide)
/-- the class drops the one label that covers the new point, the reference all: there is at most one -/
theorem gIns_mIns (h : bd_ok n P) (hg : bd_gd n P) (h8 : n ≤ 8) (x y wd hgt wt : Int32) : ∀ i, i < n + 1 → ∀ k, k < 6 → gIns n P x y wd hgt wt i k = mIns n P x y wd hgt wt i k := by
  intro i hi k hk
  unfold gIns mIns
  by_cases hin : i = n
  · rw [if_pos hin, if_pos hin]
  · rw [if_neg hin, if_neg hin]
    have hi2 : i < n := by omega
    unfold mDr
    by_cases hk5 : k = 5
    · subst hk5
      by_cases hst : gSt P i = true ∧ mHs P i (P i 5) x y = true
      · have hgoal : gLb n P x y = nI i → (if 5 = 5 ∧ gLb n P x y = nI i then (-1 : Int32) else P i 5) = if i < n ∧ 5 = 5 ∧ gSt P i = true ∧ mHs P i (P i 5) x y = true then -1 else P i 5 := fun q => by
          rw [if_pos (show i < n ∧ 5 = 5 ∧ gSt P i = true ∧ mHs P i (P i 5) x y = true from ⟨hi2, rfl, hst⟩), if_pos (show 5 = 5 ∧ gLb n P x y = nI i from ⟨rfl, q⟩)]
        refine hgoal ?_
        have hs : ¬ P i 5 = -1 := by have := hst.1; unfold gSt at this; simpa using this
        have hc : gCov P i (P i 5) x y = true := by rw [← mHs_cov h hi2]; exact hst.2
        rcases gS_full (n := n) (b := fun i => gSt P i && gCov P i (P i 5) x y) (g := nI) (z := -1) n 0 (by omega) with ⟨-, q⟩ | ⟨j, -, hj, hb, hv, -⟩
        · have q2 := q i (Nat.zero_le i) hi2
          rw [hst.1, hc] at q2
          exact absurd q2 (by decide)
        · rw [Bool.and_eq_true] at hb
          have hs2 : ¬ P j 5 = -1 := by have := hb.1; unfold gSt at this; simpa using this
          rw [gd_one h hg hi2 hj hs hs2 hc hb.2]
          exact hv
      · rw [if_neg (show ¬ (i < n ∧ 5 = 5 ∧ gSt P i = true ∧ mHs P i (P i 5) x y = true) from fun q => hst q.2.2)]
        by_cases hl : gLb n P x y = nI i
        · exfalso
          rcases gS_full (n := n) (b := fun i => gSt P i && gCov P i (P i 5) x y) (g := nI) (z := -1) n 0 (by omega) with ⟨q, -⟩ | ⟨j, -, hj, hb, hv, -⟩
          · have e : gLb n P x y = -1 := q
            rw [e] at hl
            exact nI_m1 (j := i) (by omega) hl.symm
          · have e : gLb n P x y = nI j := hv
            rw [e] at hl
            have hji := (nI_eq (by omega) (by omega)).mp hl
            subst hji
            rw [Bool.and_eq_true] at hb
            exact hst ⟨hb.1, by rw [mHs_cov h hi2]; exact hb.2⟩
        · rw [if_neg (show ¬ (5 = 5 ∧ gLb n P x y = nI i) from fun q => hl q.2)]
    · rw [if_neg (fun q => hk5 q.1), if_neg (fun q => hk5 q.2.1)]
/-- what is on a square -/
theorem at_same (h : bd_ok n P) (hg : bd_gd n P) (h8 : n ≤ 8) (x y : Int32) : mAt n P x y = if gPt n P x y = -1 then (if gLb n P x y = -1 then -1 else gLb n P x y + 100) else gPt n P x y := by
  have A := gS_full (n := n) (b := fun i => gSt P i && gCov P i (P i 5) x y) (g := nI) (z := -1) n 0 (by omega)
  have B := gS_full (n := n) (b := fun i => gSt P i && gCov P i (P i 5) x y) (g := fun i => nI (100 + i)) (z := gPt n P x y) n 0 (by omega)
  have C := gS_full (n := n) (b := fun i => decide (P i 0 = x ∧ P i 1 = y)) (g := nI) (z := -1) n 0 (by omega)
  rcases A with ⟨a1, a2⟩ | ⟨j, -, hj, hb, hv, hlt⟩
  · rcases B with ⟨b1, -⟩ | ⟨j2, -, hj2, hb2, -, -⟩
    · have e1 : gLb n P x y = -1 := a1
      have e2 : mAt n P x y = gPt n P x y := b1
      rw [e1, e2]
      split
      · rename_i q; rw [q]; rfl
      · rfl
    · have := a2 j2 (Nat.zero_le _) hj2
      rw [this] at hb2
      exact absurd hb2 (by decide)
  · have e1 : gLb n P x y = nI j := hv
    have hb' := hb
    rw [Bool.and_eq_true] at hb
    have hs : ¬ P j 5 = -1 := by have := hb.1; unfold gSt at this; simpa using this
    have hp : gPt n P x y = -1 := by
      rcases C with ⟨c1, -⟩ | ⟨q, -, hq, hbq, -, -⟩
      · exact c1
      · exfalso
        rw [decide_eq_true_iff] at hbq
        have h1 := (gOp_iff.mp (hg j hj hs).1).2 q hq
        rw [gHit_mHs, hbq.1, hbq.2, mHs_cov h hj, hb.2] at h1
        exact absurd h1 (by decide)
    have e2 : mAt n P x y = nI (100 + j) := by
      rcases B with ⟨-, b2⟩ | ⟨j2, -, hj2, hb2, hv2, hlt2⟩
      · have := b2 j (Nat.zero_le _) hj
        rw [hb'] at this
        exact absurd this (by decide)
      · rcases Nat.lt_trichotomy j j2 with q | q | q
        · have := hlt2 j (Nat.zero_le _) q
          rw [hb'] at this
          exact absurd this (by decide)
        · rw [q]; exact hv2
        · have := hlt j2 (Nat.zero_le _) q
          rw [hb2] at this
          exact absurd this (by decide)
    rw [e1, e2, hp, if_pos rfl, if_neg (nI_m1 (by omega)), show (100 : Int32) = nI 100 from rfl, nI_add, Nat.add_comm]
/-! the geometry speaks of the places and sizes alone -/
theorem geo_L {i : Nat} (h : ∀ k, k < 4 → P i k = Q i k) (c : Int32) : gL P i c = gL Q i c := by unfold gL; rw [h 0 (by decide), h 2 (by decide)]
theorem geo_T {i : Nat} (h : ∀ k, k < 4 → P i k = Q i k) (c : Int32) : gT P i c = gT Q i c := by unfold gT; rw [h 1 (by decide), h 3 (by decide)]
theorem geo_M {i : Nat} (h : ∀ k, k < 4 → P i k = Q i k) (c : Int32) : gOpM P i c = gOpM Q i c := by unfold gOpM; rw [geo_L h, geo_T h, h 2 (by decide), h 3 (by decide)]
theorem geo_Hit {i j : Nat} (h : ∀ k, k < 4 → P i k = Q i k) (hj : ∀ k, k < 2 → P j k = Q j k) (c : Int32) : gHit P i c j = gHit Q i c j := by unfold gHit; rw [geo_L h, geo_T h, h 2 (by decide), h 3 (by decide), hj 0 (by decide), hj 1 (by decide)]
theorem geo_Sh {i j : Nat} (h : ∀ k, k < 4 → P i k = Q i k) (hj : ∀ k, k < 4 → P j k = Q j k) (c d : Int32) : gSh P i c j d = gSh Q i c j d := by unfold gSh; rw [geo_L h, geo_T h, geo_L hj, geo_T hj, h 2 (by decide), h 3 (by decide), hj 2 (by decide), hj 3 (by decide)]
theorem geo_Op {i : Nat} (h : ∀ k, k < 4 → P i k = Q i k) (hj : ∀ j, j < n → ∀ k, k < 2 → P j k = Q j k) {c : Int32} (ho : gOp n P i c = true) : gOp n Q i c = true := by
  rw [gOp_iff] at ho ⊢
  exact ⟨by rw [← geo_M h]; exact ho.1, fun j hjn => by rw [← geo_Hit h (hj j hjn)]; exact ho.2 j hjn⟩
/-- labels stay or are dropped; the sizes of those that stand, and all places, stay -/
theorem bd_gd_less (h2 : ∀ j, j < n → ∀ k, k < 2 → P j k = Q j k) (h5 : ∀ i, i < n → ¬ Q i 5 = -1 → Q i 5 = P i 5 ∧ ∀ k, k < 4 → P i k = Q i k) (h : bd_gd n P) : bd_gd n Q := by
  intro i hi hs
  obtain ⟨e1, g1⟩ := h5 i hi hs
  have hs1 : ¬ P i 5 = -1 := by rw [← e1]; exact hs
  obtain ⟨a1, a2⟩ := h i hi hs1
  refine ⟨by rw [e1]; exact geo_Op g1 h2 a1, fun j hj hji hsj => ?_⟩
  obtain ⟨e2, g2⟩ := h5 j hj hsj
  rw [e1, e2, ← geo_Sh g1 g2]
  exact a2 j hj hji (by rw [← e2]; exact hsj)
theorem gSet_k {i k : Nat} {v : Int32} {a b : Nat} (h : ¬ b = k) : gSet P i k v a b = P a b := by unfold gSet; rw [if_neg (fun q => h q.2)]
theorem gSet_i {i k : Nat} {v : Int32} {a b : Nat} (h : ¬ a = i) : gSet P i k v a b = P a b := by unfold gSet; rw [if_neg (fun q => h q.1)]
theorem gSet_at {i k : Nat} {v : Int32} : gSet P i k v i k = v := by unfold gSet; rw [if_pos ⟨rfl, rfl⟩]
theorem bd_gd_weigh {i : Nat} {v : Int32} (h : bd_gd n P) : bd_gd n (gSet P i 4 v) :=
  bd_gd_less (fun j _ k hk => (gSet_k (by omega)).symm) (fun j _ _ => ⟨gSet_k (by decide), fun k hk => (gSet_k (by omega)).symm⟩) h
theorem bd_gd_drop {i : Nat} (h : bd_gd n P) : bd_gd n (gSet P i 5 (-1)) := by
  refine bd_gd_less (fun j _ k hk => (gSet_k (by omega)).symm) (fun j _ hs => ?_) h
  by_cases hji : j = i
  · subst hji; exact absurd gSet_at hs
  · exact ⟨gSet_i hji, fun k _ => (gSet_i hji).symm⟩
theorem bd_gd_resize {i : Nat} {y z : Int32} (h : bd_gd n P) : bd_gd n (gSet (gSet (gSet P i 2 y) i 3 z) i 5 (-1)) := by
  refine bd_gd_less (fun j _ k hk => ?_) (fun j _ hs => ?_) h
  · rw [gSet_k (by omega), gSet_k (by omega), gSet_k (by omega)]
  · by_cases hji : j = i
    · subst hji; exact absurd gSet_at hs
    · exact ⟨by rw [gSet_i hji, gSet_i hji, gSet_i hji], fun k _ => by rw [gSet_i hji, gSet_i hji, gSet_i hji]⟩
theorem gCl_no (hb : bd_ok n P) {i : Nat} (hi : i < n) {c : Int32} (h : gCl n P i c = false) : ∀ j, j < n → ¬ j = i → ¬ P j 5 = -1 → gSh P i c j (P j 5) = 0 := by
  intro j hj hji hs
  rw [gSh_pos hb hi c hj]
  intro hlt
  unfold gCl at h
  rw [← Bool.not_eq_true, gE_iff n 0 (by omega)] at h
  exact h ⟨j, Nat.zero_le _, hj, by unfold gClB; rw [decide_eq_true hji, gSt_t hs, decide_eq_true hlt]; rfl⟩
theorem bd_gd_place (hb : bd_ok n P) {i : Nat} (hi : i < n) {y : Int32} (ho : (gOp n P i y && !gCl n P i y) = true) (h : bd_gd n P) : bd_gd n (gSet P i 5 y) := by
  rw [Bool.and_eq_true, Bool.not_eq_true'] at ho
  have hg : ∀ a k, k < 4 → P a k = gSet P i 5 y a k := fun a k hk => (gSet_k (by omega)).symm
  have hcl := gCl_no hb hi ho.2
  intro a ha hs
  by_cases hai : a = i
  · subst hai
    rw [gSet_at]
    refine ⟨geo_Op (hg a) (fun j _ k hk => hg j k (by omega)) ho.1, fun j hj hja hsj => ?_⟩
    rw [gSet_i hja] at hsj ⊢
    rw [← geo_Sh (hg a) (hg j)]
    exact hcl j hj hja hsj
  · rw [gSet_i hai] at hs ⊢
    obtain ⟨a1, a2⟩ := h a ha hs
    refine ⟨geo_Op (hg a) (fun j _ k hk => hg j k (by omega)) a1, fun j hj hja hsj => ?_⟩
    rw [← geo_Sh (hg a) (hg j)]
    by_cases hji : j = i
    · subst hji
      rw [gSet_at, gSh_comm]
      exact hcl a ha hai hs
    · rw [gSet_i hji] at hsj ⊢
      exact a2 j hj hja hsj
theorem bd_ok_set5 {i : Nat} {y : Int32} (hy : y = -1 ∨ ok4 y) (hb : bd_ok n P) : bd_ok n (gSet P i 5 y) := by
  intro j hj
  obtain ⟨a0, a1, a2, a3, a4, a5⟩ := hb j hj
  rw [gSet_k (by decide), gSet_k (by decide), gSet_k (by decide), gSet_k (by decide), gSet_k (by decide)]
  refine ⟨a0, a1, a2, a3, a4, ?_⟩
  by_cases hji : j = i
  · subst hji; rw [gSet_at]; exact hy
  · rw [gSet_i hji]; exact a5
theorem bd_ok_set4 {i : Nat} {y : Int32} (hy : mIn y 1 99 = true) (hb : bd_ok n P) : bd_ok n (gSet P i 4 y) := by
  have h1 := mIn_rng hy
  rw [show (1 : Int32).toInt = 1 from rfl, show (99 : Int32).toInt = 99 from rfl] at h1
  intro j hj
  obtain ⟨a0, a1, a2, a3, a4, a5⟩ := hb j hj
  rw [gSet_k (by decide), gSet_k (by decide), gSet_k (by decide), gSet_k (by decide), gSet_k (b := 5) (by decide)]
  refine ⟨a0, a1, a2, a3, ?_, a5⟩
  by_cases hji : j = i
  · subst hji; rw [gSet_at]; exact h1
  · rw [gSet_i hji]; exact a4
theorem mRef_0 {x y wd hgt wt : Int32} (h : mRef n P x y wd hgt wt = 0) : gPt n P x y = -1 ∧ ¬ n = 8 := by
  unfold mRef at h
  split at h
  · split at h
    · exact absurd h (by decide)
    · rename_i q
      refine ⟨?_, fun z => q (Or.inl z)⟩
      rcases (Decidable.em (gPt n P x y = -1)) with z | z
      · exact z
      · exact absurd (Or.inr z) q
  · exact absurd h (by decide)
theorem mIns_old {x y wd hgt wt : Int32} {i k : Nat} (hi : ¬ i = n) : mIns n P x y wd hgt wt i k = mDr P x y n i k := by unfold mIns; rw [if_neg hi]
theorem bd_gd_ins (hb : bd_ok n P) (h : bd_gd n P) {x y wd hgt wt : Int32} : bd_gd (n + 1) (mIns n P x y wd hgt wt) := by
  have e5 : mIns n P x y wd hgt wt n 5 = -1 := by unfold mIns; rw [if_pos rfl]; simp
  have e0 : mIns n P x y wd hgt wt n 0 = x := by unfold mIns; rw [if_pos rfl]; simp
  have e1 : mIns n P x y wd hgt wt n 1 = y := by unfold mIns; rw [if_pos rfl]; simp
  have hold : ∀ i, i < n → ∀ k, ¬ k = 5 → P i k = mIns n P x y wd hgt wt i k := fun i hi k hk => by rw [mIns_old (by omega), mDr_k hk]
  have hst : ∀ i, i < n + 1 → ¬ mIns n P x y wd hgt wt i 5 = -1 → i < n ∧ mIns n P x y wd hgt wt i 5 = P i 5 ∧ ¬ P i 5 = -1 ∧ mHs P i (P i 5) x y = false := by
    intro i hi hs
    by_cases hin : i = n
    · subst hin; exact absurd e5 hs
    · have hi2 : i < n := by omega
      rw [mIns_old hin] at hs ⊢
      unfold mDr at hs ⊢
      by_cases hq : i < n ∧ 5 = 5 ∧ gSt P i = true ∧ mHs P i (P i 5) x y = true
      · rw [if_pos hq] at hs; exact absurd rfl hs
      · rw [if_neg hq] at hs ⊢
        refine ⟨hi2, rfl, hs, ?_⟩
        cases hm : mHs P i (P i 5) x y with
        | false => rfl
        | true => exact absurd ⟨hi2, rfl, gSt_t hs, hm⟩ hq
  intro i hi hs
  obtain ⟨hi2, ei, hsi, hm⟩ := hst i hi hs
  obtain ⟨a1, a2⟩ := h i hi2 hsi
  have hgi : ∀ k, k < 4 → P i k = mIns n P x y wd hgt wt i k := fun k hk => hold i hi2 k (by omega)
  refine ⟨?_, fun j hj hji hsj => ?_⟩
  · rw [gOp_iff] at a1 ⊢
    rw [ei]
    refine ⟨by rw [← geo_M hgi]; exact a1.1, fun j hj => ?_⟩
    by_cases hjn : j = n
    · subst hjn
      have e : gHit (mIns j P x y wd hgt wt) i (P i 5) j = mHs P i (P i 5) x y := by
        rw [gHit_mHs, e0, e1]
        unfold mHs
        rw [← geo_L hgi, ← geo_T hgi, ← hgi 2 (by decide), ← hgi 3 (by decide)]
      rw [e]; exact hm
    · rw [← geo_Hit hgi (fun k hk => hold j (by omega) k (by omega))]
      exact a1.2 j (by omega)
  · obtain ⟨hj2, ej, hsj2, -⟩ := hst j hj hsj
    rw [ei, ej, ← geo_Sh hgi (fun k hk => hold j hj2 k (by omega))]
    exact a2 j hj2 hji hsj2
theorem bd_gd_out {mm i : Nat} (en : n = mm + 1) (hi : i ≤ mm) (h : bd_gd n P) : bd_gd mm (gOut P i) := by
  obtain ⟨r, hr⟩ : ∃ r : Nat → Nat, r = fun j => if j < i then j else j + 1 := ⟨_, rfl⟩
  have e : ∀ j k, gOut P i j k = P (r j) k := by
    intro j k
    rw [hr]
    unfold gOut
    by_cases hj : j < i
    · rw [if_pos hj]; simp only [if_pos hj]
    · rw [if_neg hj]; simp only [if_neg hj]
  have hrn : ∀ j, j < mm → r j < n := by
    intro j hj
    rw [hr]
    show (if j < i then j else j + 1) < n
    split <;> omega
  have hinj : ∀ j q, r j = r q → j = q := by
    intro j q
    rw [hr]
    show (if j < i then j else j + 1) = (if q < i then q else q + 1) → j = q
    split <;> split <;> omega
  have eL : ∀ j c, gL (gOut P i) j c = gL P (r j) c := fun j c => by unfold gL; rw [e, e]
  have eT : ∀ j c, gT (gOut P i) j c = gT P (r j) c := fun j c => by unfold gT; rw [e, e]
  intro j hj hs
  rw [e] at hs
  obtain ⟨a1, a2⟩ := h (r j) (hrn j hj) hs
  refine ⟨?_, fun q hq hqj hsq => ?_⟩
  · rw [gOp_iff] at a1 ⊢
    rw [e]
    refine ⟨?_, fun q hq => ?_⟩
    · have := a1.1
      unfold gOpM at this ⊢
      rw [eL, eT, e, e]
      exact this
    · have := a1.2 (r q) (hrn q hq)
      unfold gHit at this ⊢
      rw [eL, eT, e, e, e, e]
      exact this
  · rw [e] at hsq
    have := a2 (r q) (hrn q hq) (fun z => hqj (hinj q j z)) hsq
    unfold gSh at this ⊢
    rw [eL, eT, eL, eT, e, e, e, e, e, e]
    exact this
/-! mirrored -/
theorem flp_L (h : bd_ok n P) {i : Nat} (hi : i < n) {c : Int32} (hc : ok4 c) : (gL (gFlp P) i (c ^^^ 1)).toInt = 60 - (gL P i c).toInt - (P i 2).toInt := by
  obtain ⟨a0, a1, a2, a3, -, -⟩ := h i hi
  have e0 : gFlp P i 0 = 59 - P i 0 := rfl
  have e2 : gFlp P i 2 = P i 2 := by unfold gFlp; simp
  have t9 : (59 : Int32).toInt = 59 := by decide
  have t0 : (59 - P i 0).toInt = 59 - (P i 0).toInt := by rw [ti_sub (by rw [t9]; omega) (by rw [t9]; omega), t9]
  have tp : (P i 0 + 1).toInt = (P i 0).toInt + 1 := by rw [ti_add (by rw [ti_1]; omega) (by rw [ti_1]; omega), ti_1]
  have tm : (P i 0 - P i 2).toInt = (P i 0).toInt - (P i 2).toInt := by rw [ti_sub (by omega) (by omega)]
  have tp2 : (59 - P i 0 + 1).toInt = 60 - (P i 0).toInt := by rw [ti_add (by rw [ti_1, t0]; omega) (by rw [ti_1, t0]; omega), ti_1, t0]; omega
  have tm2 : (59 - P i 0 - P i 2).toInt = 59 - (P i 0).toInt - (P i 2).toInt := by rw [ti_sub (by rw [t0]; omega) (by rw [t0]; omega), t0]
  rcases hc with rfl | rfl | rfl | rfl
  · rw [show (0 ^^^ 1 : Int32) = 1 by decide]
    unfold gL
    rw [if_neg (by decide), if_pos (by decide), e0, e2, tm2, tp]; omega
  · rw [show (1 ^^^ 1 : Int32) = 0 by decide]
    unfold gL
    rw [if_pos (by decide), if_neg (by decide), e0, tp2, tm]; omega
  · rw [show (2 ^^^ 1 : Int32) = 3 by decide]
    unfold gL
    rw [if_pos (by decide), if_neg (by decide), e0, tp2, tm]; omega
  · rw [show (3 ^^^ 1 : Int32) = 2 by decide]
    unfold gL
    rw [if_neg (by decide), if_pos (by decide), e0, e2, tm2, tp]; omega
theorem flp_k {i k : Nat} (h0 : ¬ k = 0) (h5 : ¬ k = 5) : gFlp P i k = P i k := by unfold gFlp; rw [if_neg h0, if_neg (fun q => h5 q.1)]
theorem flp_T {i : Nat} {c : Int32} (hc : ok4 c) : gT (gFlp P) i (c ^^^ 1) = gT P i c := by
  have e1 : gFlp P i 1 = P i 1 := flp_k (by decide) (by decide)
  have e3 : gFlp P i 3 = P i 3 := flp_k (by decide) (by decide)
  rcases hc with rfl | rfl | rfl | rfl
  · rw [show (0 ^^^ 1 : Int32) = 1 by decide]; unfold gT; rw [if_pos (by decide), if_pos (by decide), e1]
  · rw [show (1 ^^^ 1 : Int32) = 0 by decide]; unfold gT; rw [if_pos (by decide), if_pos (by decide), e1]
  · rw [show (2 ^^^ 1 : Int32) = 3 by decide]; unfold gT; rw [if_neg (by decide), if_neg (by decide), e1, e3]
  · rw [show (3 ^^^ 1 : Int32) = 2 by decide]; unfold gT; rw [if_neg (by decide), if_neg (by decide), e1, e3]
theorem flp_st {i : Nat} : (gFlp P i 5 = if P i 5 = -1 then -1 else P i 5 ^^^ 1) := by
  unfold gFlp
  rw [if_neg (by decide)]
  by_cases h : P i 5 = -1
  · rw [if_neg (fun q => by have := q.2; rw [gSt_f h] at this; exact absurd this (by decide)), if_pos h, h]
  · rw [if_pos ⟨rfl, gSt_t h⟩, if_neg h]
theorem flp_Op (h : bd_ok n P) {i : Nat} (hi : i < n) {c : Int32} (hc : ok4 c) (ho : gOp n P i c = true) : gOp n (gFlp P) i (c ^^^ 1) = true := by
  have hf := bd_ok_flp h
  have r1 := gL_rng h hi c
  have r2 := gL_rng hf hi (c ^^^ 1)
  have r3 := gT_rng h hi c
  have eL := flp_L h hi hc
  have eT := flp_T (P := P) (i := i) hc
  have e2 : gFlp P i 2 = P i 2 := flp_k (by decide) (by decide)
  have e3 : gFlp P i 3 = P i 3 := flp_k (by decide) (by decide)
  obtain ⟨a0, a1, a2, a3, -, -⟩ := h i hi
  rw [gOp_iff] at ho ⊢
  obtain ⟨o1, o2⟩ := ho
  have k1 := (ti_end (a := gL P i c) (b := P i 2) (by omega) (by omega) (by omega) (by omega)).1
  have k2 := (ti_end (a := gL (gFlp P) i (c ^^^ 1)) (b := P i 2) (by omega) (by omega) (by omega) (by omega)).1
  have t6 : (60 : Int32).toInt = 60 := by decide
  refine ⟨?_, fun j hj => ?_⟩
  · unfold gOpM at o1 ⊢
    rw [decide_eq_true_iff] at o1 ⊢
    rw [eT, e2, e3]
    simp only [Int32.le_iff_toInt_le, Int32.lt_iff_toInt_lt, k1, k2, ti_0, t6] at o1 ⊢
    exact ⟨by omega, by omega, o1.2.2.1, o1.2.2.2⟩
  · have := o2 j hj
    obtain ⟨b0, -⟩ := h j hj
    have t9 : (59 : Int32).toInt = 59 := by decide
    have t0 : (59 - P j 0).toInt = 59 - (P j 0).toInt := by rw [ti_sub (by rw [t9]; omega) (by rw [t9]; omega), t9]
    have ej : gFlp P j 0 = 59 - P j 0 := rfl
    have ej1 : gFlp P j 1 = P j 1 := flp_k (by decide) (by decide)
    unfold gHit at this ⊢
    rw [decide_eq_false_iff_not] at this ⊢
    rw [eT, e2, e3, ej, ej1]
    intro q
    refine this ?_
    simp only [Int32.le_iff_toInt_le, k1, k2, t0] at q ⊢
    exact ⟨by omega, by omega, q.2.2.1, q.2.2.2⟩
theorem flp_Sh (h : bd_ok n P) {i j : Nat} (hi : i < n) (hj : j < n) {c d : Int32} (hc : ok4 c) (hd : ok4 d) : gSh (gFlp P) i (c ^^^ 1) j (d ^^^ 1) = gSh P i c j d := by
  have hf := bd_ok_flp h
  have r1 := gL_rng h hi c
  have r2 := gL_rng hf hi (c ^^^ 1)
  have r3 := gL_rng h hj d
  have r4 := gL_rng hf hj (d ^^^ 1)
  have eL := flp_L h hi hc
  have eL2 := flp_L h hj hd
  have e2 : gFlp P i 2 = P i 2 := flp_k (by decide) (by decide)
  have e3 : gFlp P i 3 = P i 3 := flp_k (by decide) (by decide)
  have e4 : gFlp P j 2 = P j 2 := flp_k (by decide) (by decide)
  have e5 : gFlp P j 3 = P j 3 := flp_k (by decide) (by decide)
  obtain ⟨-, -, w1, v1, -⟩ := h i hi
  obtain ⟨-, -, w2, v2, -⟩ := h j hj
  have a1 := (mAc_ti (a := gL P i c) (la := P i 2) (b := gL P j d) (lb := P j 2) (by omega) (by omega) (by omega) (by omega)).2
  have a2 := (mAc_ti (a := gL (gFlp P) i (c ^^^ 1)) (la := P i 2) (b := gL (gFlp P) j (d ^^^ 1)) (lb := P j 2) (by omega) (by omega) (by omega) (by omega)).2
  unfold gSh
  rw [flp_T hc, flp_T hd, e2, e3, e4, e5]
  congr 1
  refine ti_inj ?_
  rw [a1, a2]
  omega
theorem bd_gd_flp (hb : bd_ok n P) (h : bd_gd n P) : bd_gd n (gFlp P) := by
  have hs : ∀ i, ¬ gFlp P i 5 = -1 → ¬ P i 5 = -1 ∧ gFlp P i 5 = P i 5 ^^^ 1 := by
    intro i q
    rw [flp_st] at q ⊢
    by_cases z : P i 5 = -1
    · rw [if_pos z] at q; exact absurd rfl q
    · rw [if_neg z]; exact ⟨z, rfl⟩
  intro i hi hsi
  obtain ⟨b1, b2⟩ := hs i hsi
  have o1 := bd_ok4 hb hi b1
  obtain ⟨a1, a2⟩ := h i hi b1
  rw [b2]
  refine ⟨flp_Op hb hi o1 a1, fun j hj hji hsj => ?_⟩
  obtain ⟨c1, c2⟩ := hs j hsj
  rw [c2, flp_Sh hb hi hj o1 (bd_ok4 hb hj c1)]
  exact a2 j hj hji c1
/-! plans -/
def plOK (n : Nat) (P : Nat → Nat → Int32) (u : Nat → Nat) : Prop := (∀ j, j < n → u j < 5 ∧ (u j < 4 → gOp n P j (nI (u j)) = true)) ∧ ∀ q j, q < j → j < n → u q < 4 → u j < 4 → gSh P q (nI (u q)) j (nI (u j)) = 0
theorem cps_cl {A : Nat → Nat → Bool} : ∀ (d i : Nat) (t u : Nat → Nat), u ∈ cps A P d i t → ∀ j, i ≤ j → j < i + d → ∀ q, q < j → u j = 4 ∨ u q = 4 ∨ clP P q (u q) j (u j) = false
  | 0, i, t, u, h, j, h1, h2, q, hq => absurd h2 (by omega)
  | d + 1, i, t, u, h, j, h1, h2, q, hq => by
    obtain ⟨c, hc, hf, hu⟩ := cps_mem.mp h
    have hp := (cps_pre d (i + 1) _ u hu).1
    by_cases hji : j = i
    · subst hji
      have e1 : u j = c := by rw [hp j (by omega), updN_eq]
      have e2 : u q = t q := by rw [hp q (by omega), updN_ne (by omega)]
      rcases (feB_iff.mp hf).2 with z | z
      · exact Or.inl (e1.trans z)
      · rcases z q hq with y | y
        · exact Or.inr (Or.inl (e2.trans y))
        · exact Or.inr (Or.inr (by rw [e1, e2]; exact y))
    · exact cps_cl d (i + 1) _ u hu j (by omega) (by omega) q hq
theorem plOK_cps (hb : bd_ok n P) {A : Nat → Nat → Bool} {t u : Nat → Nat} (hA : ∀ j, j < n → ∀ c, c < 4 → A j c = true → gOp n P j (nI c) = true) (hu : u ∈ cps A P n 0 t) : plOK n P u := by
  refine ⟨fun j hj => ?_, fun q j hqj hj h1 h2 => ?_⟩
  · obtain ⟨a1, a2⟩ := (cps_pre n 0 t u hu).2 j (Nat.zero_le j) (by omega)
    exact ⟨a1, fun h4 => hA j hj _ h4 a2⟩
  · rcases cps_cl n 0 t u hu j (Nat.zero_le j) (by omega) q hqj with z | z | z
    · omega
    · omega
    · unfold clP at z
      rw [decide_eq_false_iff_not] at z
      exact (gSh_pos hb (by omega) _ hj _).mpr z
theorem alH_op {wo : Int32} {j c : Nat} (hc : c < 4) (h : mBt (alH n P wo j) c = true) : gOp n P j (nI c) = true := by
  rw [bt_mBt _ (by omega)] at h
  unfold alH at h
  by_cases hw : nI j = wo
  · rw [if_pos hw, bt16 c (by omega), decide_eq_true_iff] at h
    omega
  · rw [if_neg hw, b_or, bt16 c (by omega), gMk_bt (by omega), decide_eq_false (show ¬ c = 4 by omega), decide_eq_true hc] at h
    simpa using h
theorem alR_op {w j c : Nat} (hc : c < 4) (h : mBt (alR n P w j) c = true) : gOp n P j (nI c) = true := by
  rw [bt_mBt _ (by omega)] at h
  unfold alR at h
  by_cases hw : j = w ∨ ¬ P j 5 = -1
  · rw [if_pos hw, gMk_bt (by omega), decide_eq_true hc] at h
    simpa using h
  · rw [if_neg hw, bt16 c (by omega), decide_eq_true_iff] at h
    omega
theorem mHv_plan (h8 : n ≤ 8) (hbk : bd_ok n P) (wo : Int32) : ∃ u : Nat → Nat, plOK n P u ∧ ∀ (pl : Nat → Int32) (j : Nat), j < n → (mHv n P wo pl).2 j = nI (u j) := by
  have hAe : ∀ i, i < n → ∀ c, c < 5 → (fun j c => mBt (alH n P wo j) c) i c = mBt (alH n P wo i) c := fun _ _ _ _ => rfl
  have h4 : ∀ j, j < n → (fun j c => mBt (alH n P wo j) c) j 4 = true := by
    intro j hj
    show mBt (alH n P wo j) 4 = true
    rw [bt_mBt _ (by omega)]
    unfold alH
    by_cases hw : nI j = wo
    · rw [if_pos hw, bt16 4 (by omega)]; rfl
    · rw [if_neg hw, b_or, bt16 4 (by omega)]; simp
  obtain ⟨u0, hu0⟩ := dropped_mem (n := n) (P := P) (A := fun j c => mBt (alH n P wo j) c) h4 n 0 (fun _ => 0) (by omega)
  obtain ⟨u, hu⟩ := fB_nn (w := scS (gW P) n) hu0 (scW_rng hbk u0 n (Nat.le_refl n)).1 (z := (-1, none)) rfl
  have hmem : u ∈ cps (fun j c => mBt (alH n P wo j) c) P n 0 (fun _ => 0) := by
    rcases fB_some _ _ u hu with q | q
    · exact absurd q (by simp)
    · exact q
  refine ⟨u, plOK_cps hbk (fun j _ c hc ha => alH_op hc ha) hmem, fun pl j hj => ?_⟩
  have r2 := srM0_fold (p0 := pl) h8 hbk hAe n 0 (by omega) (fun _ => 0) (-1, none) (-1, pl) (fun j hj => absurd hj (Nat.not_lt_zero j)) (Int.le_refl _) ⟨m1_ti, fun _ _ => rfl⟩
  obtain ⟨-, b2⟩ := r2
  rw [hu] at b2
  exact b2 j hj
theorem mRm_fst {w : Nat} (pl pl' : Nat → Int32) : (mRm n P w pl).1 = (mRm n P w pl').1 := srM_fst n 0 _ _ _ rfl
theorem mMr_pl {w : Nat} (pl pl' : Nat → Int32) : mMr n P w pl = mMr n P w pl' := by unfold mMr; rw [mRm_fst pl pl']
theorem mFu_pl (pl pl' : Nat → Int32) : (mFu n P pl).1 = (mFu n P pl').1 := srM_fst n 0 _ _ _ rfl
theorem mRm_plan (h8 : n ≤ 8) (hbk : bd_ok n P) {w : Nat} (hr : ¬ mMr n P w (fun _ => 0) = -1) : ∃ u : Nat → Nat, plOK n P u ∧ ∀ (pl : Nat → Int32) (j : Nat), j < n → (mRm n P w pl).2 j = nI (u j) := by
  have hwd := mMr_ne hr
  have hAe : ∀ i, i < n → ∀ c, c < 5 → (fun j c => mBt (alR n P w j) c) i c = mBt (alR n P w i) c := fun _ _ _ _ => rfl
  have hA4 : ∀ i, i < n → ¬ P i 5 = -1 → (fun j c => mBt (alR n P w j) c) i 4 = false := by
    intro i hi h5
    show mBt (alR n P w i) 4 = false
    rw [bt_mBt _ (by omega)]
    unfold alR
    rw [if_pos (Or.inr h5), gMk_bt (by omega)]
    rfl
  have r2 := fun pl : Nat → Int32 => srM1_fold (A := fun j c => mBt (alR n P w j) c) h8 hbk hAe hA4 n 0 (by omega) (fun _ => 0) (-1, none) (-1, pl) (fun j hj => absurd hj (Nat.not_lt_zero j)) ⟨fun _ => ⟨rfl, rfl⟩, fun u hu => absurd hu (by simp)⟩
  have hsome := fB_some (w := scS (gU P) n) (cps (fun j c => mBt (alR n P w j) c) P n 0 (fun _ => 0)) (-1, none)
  generalize hzz : (cps (fun j c => mBt (alR n P w j) c) P n 0 (fun _ => 0)).foldl (fB (scS (gU P) n)) (-1, none) = z at r2 hsome
  cases hz : z.2 with
  | none =>
    exfalso
    have h0 : RelR n P z (mRm n P w (fun _ => 0)) := r2 (fun _ => 0)
    refine hr ?_
    unfold mMr
    rw [if_pos hwd]
    exact (h0.1 hz).2
  | some u =>
    have hmem : u ∈ cps (fun j c => mBt (alR n P w j) c) P n 0 (fun _ => 0) := by
      rcases hsome u hz with q | q
      · exact absurd q (by simp)
      · exact q
    refine ⟨u, plOK_cps hbk (fun j _ c hc ha => alR_op hc ha) hmem, fun pl j hj => ?_⟩
    have h0 : RelR n P z (mRm n P w pl) := r2 pl
    obtain ⟨-, -, -, c4⟩ := h0.2 u hz
    exact c4 j hj
theorem lay_u {u : Nat} (h : u < 5) : lay (nI u) = if u = 4 then -1 else nI u := by
  unfold lay
  rcases (show u = 0 ∨ u = 1 ∨ u = 2 ∨ u = 3 ∨ u = 4 by omega) with rfl | rfl | rfl | rfl | rfl <;> decide
theorem mLy_lay {pl : Nat → Int32} {i k : Nat} : mLy P pl i k = if k = 5 then lay (pl i) else P i k := rfl
theorem ly_ok (hb : bd_ok n P) {pl : Nat → Int32} {u : Nat → Nat} (hu : plOK n P u) (he : ∀ j, j < n → pl j = nI (u j)) : bd_ok n (mLy P pl) := by
  intro j hj
  obtain ⟨a0, a1, a2, a3, a4, -⟩ := hb j hj
  refine ⟨a0, a1, a2, a3, a4, ?_⟩
  rw [mLy_lay, if_pos rfl, he j hj, lay_u (hu.1 j hj).1]
  split
  · exact Or.inl rfl
  · exact Or.inr (ok4_nI (by have := (hu.1 j hj).1; omega))
theorem ly_gd (hb : bd_ok n P) {pl : Nat → Int32} {u : Nat → Nat} (hu : plOK n P u) (he : ∀ j, j < n → pl j = nI (u j)) : bd_gd n (mLy P pl) := by
  have e5 : ∀ j, j < n → ¬ mLy P pl j 5 = -1 → u j < 4 ∧ mLy P pl j 5 = nI (u j) := by
    intro j hj hs
    have h5 := (hu.1 j hj).1
    rw [mLy_lay, if_pos rfl, he j hj, lay_u h5] at hs ⊢
    by_cases h4 : u j = 4
    · rw [if_pos h4] at hs; exact absurd rfl hs
    · rw [if_neg h4]; exact ⟨by omega, rfl⟩
  have hg : ∀ a k, k < 4 → P a k = mLy P pl a k := fun a k hk => by rw [mLy_lay, if_neg (by omega)]
  intro i hi hs
  obtain ⟨u4, ei⟩ := e5 i hi hs
  rw [ei]
  refine ⟨geo_Op (hg i) (fun j _ k hk => hg j k (by omega)) ((hu.1 i hi).2 u4), fun j hj hji hsj => ?_⟩
  obtain ⟨v4, ej⟩ := e5 j hj hsj
  rw [ej, ← geo_Sh (hg i) (hg j)]
  rcases Nat.lt_or_ge i j with z | z
  · exact hu.2 i j z hj u4 v4
  · rw [gSh_comm]
    exact hu.2 j i (by omega) hi v4 u4
/-! sums -/
theorem gSW_mW : gSW n P = mW n P true := by
  unfold gSW mW
  refine gF_congr (fun i hi a => ?_) n 0 0 (by omega)
  rfl
theorem gAW_sum : ∀ q, gF q (gAWF P) 0 0 = gF q (mWF P true) 0 0 + gF q (mWF P false) 0 0
  | 0 => by rw [gF_end (Nat.le_refl 0), gF_end (Nat.le_refl 0), gF_end (Nat.le_refl 0)]; rfl
  | q + 1 => by
    rw [gF_snoc q 0 0 (by omega), gF_snoc q 0 0 (by omega), gF_snoc q 0 0 (by omega), gAW_sum q]
    generalize gF q (mWF P true) 0 0 = a
    generalize gF q (mWF P false) 0 0 = b
    unfold gAWF mWF
    cases h : gSt P q with
    | true => rw [if_pos rfl, if_neg (by decide), Int32.add_assoc, Int32.add_assoc, Int32.add_comm b]
    | false => rw [if_neg (by decide), if_pos rfl, Int32.add_assoc]
theorem gAW_mW : gAW n P = mW n P true + mW n P false := gAW_sum n
theorem w3_same : gAW n P - gSW n P = mW n P false := by
  rw [gAW_mW, gSW_mW, Int32.add_comm, Int32.add_sub_cancel]
theorem wt_nat (hb : bd_ok n P) {i : Nat} (hi : i < n) : ∃ w : Nat, 1 ≤ w ∧ w ≤ 99 ∧ P i 4 = nI w := by
  obtain ⟨-, -, -, -, ⟨h1, h2⟩, -⟩ := hb i hi
  obtain ⟨j, hj, e⟩ := nI_of2 (x := P i 4) (M := 99) (n := 99) (by decide) (by rw [Int32.lt_iff_toInt_lt, ti_0]; omega) (by rw [Int32.le_iff_toInt_le, show (99 : Int32).toInt = 99 by decide]; omega)
  refine ⟨j, ?_, hj, e⟩
  rw [e, nI_toInt (by omega)] at h1
  omega
theorem mW_nat (hb : bd_ok n P) : ∀ q, q ≤ n → ∃ s f : Nat, gF q (mWF P true) 0 0 = nI s ∧ gF q (mWF P false) 0 0 = nI f ∧ s + f ≤ 99 * q
  | 0, _ => ⟨0, 0, gF_end (Nat.le_refl 0), gF_end (Nat.le_refl 0), by omega⟩
  | q + 1, hq => by
    obtain ⟨s, f, h1, h2, h3⟩ := mW_nat hb q (by omega)
    obtain ⟨w, w1, w2, ew⟩ := wt_nat hb (i := q) (by omega)
    rw [gF_snoc q 0 0 (by omega), gF_snoc q 0 0 (by omega), h1, h2]
    unfold mWF
    rw [ew]
    cases h : gSt P q with
    | true => exact ⟨s + w, f, by rw [if_pos rfl, nI_add], by rw [if_neg (by decide)], by omega⟩
    | false => exact ⟨s, f + w, by rw [if_neg (by decide)], by rw [if_pos rfl, nI_add], by omega⟩
theorem share_nat (h8 : n ≤ 8) (hb : bd_ok n P) : ∃ s a : Nat, gSW n P = nI s ∧ gAW n P = nI a ∧ mW n P true = nI s ∧ mW n P true + mW n P false = nI a ∧ s ≤ a ∧ a ≤ 792 := by
  obtain ⟨s, f, h1, h2, h3⟩ := mW_nat hb n (Nat.le_refl n)
  have e1 : mW n P true = nI s := h1
  have e2 : mW n P false = nI f := h2
  exact ⟨s, s + f, by rw [gSW_mW, e1], by rw [gAW_mW, e1, e2, nI_add], e1, by rw [e1, e2, nI_add], by omega, by omega⟩
/-! the share -/
def gShare (n : Nat) (P : Nat → Nat → Int32) : UInt64 := if gAW n P = 0 then FP.dconst1 else FP.ddiv (FP.i2d (gSW n P)) (FP.i2d (gAW n P))
theorem gShare_n (h8 : n ≤ 8) (hb : bd_ok n P) (h : ¬ gAW n P = 0) : vf_n64 (FP.ddiv (FP.i2d (gSW n P)) (FP.i2d (gAW n P))) := by
  obtain ⟨s, a, e1, e2, -, -, h1, h2⟩ := share_nat h8 hb
  rw [e1, e2]
  rw [e2] at h
  have : 0 < a := by
    rcases Nat.eq_zero_or_pos a with z | z
    · subst z; exact absurd rfl h
    · exact z
  exact (share_ok h1 (by omega) this).1
theorem gShare_ok (h8 : n ≤ 8) (hb : bd_ok n P) : shOK (gShare n P) := by
  unfold gShare
  by_cases h : gAW n P = 0
  · rw [if_pos h]; exact shOK_1
  · rw [if_neg h]
    obtain ⟨s, a, e1, e2, -, -, h1, h2⟩ := share_nat h8 hb
    rw [e1, e2]
    rw [e2] at h
    have : 0 < a := by
      rcases Nat.eq_zero_or_pos a with z | z
      · subst z; exact absurd rfl h
      · exact z
    exact (share_ok h1 (by omega) this).2
/-! pairs that may clash -/
theorem gPM_bt {n : Nat} {P : Nat → Nat → Int32} {aO aW aN aC : Nat → Int32} (h8 : n ≤ 8) (hO : lkI n n P aO aW aN) (hC : lcI n n aO P aC) {i j q : Nat} (hij : i < j) (hj : j < n) (hq : q < 4) : bt (gPM aC i) (j * 4 + q) = (gOp n P j (nI q) && (gOp n P i (nI 0) && decide (0 < gSh P i (nI 0) j (nI q)) || (gOp n P i (nI 1) && decide (0 < gSh P i (nI 1) j (nI q)) || (gOp n P i (nI 2) && decide (0 < gSh P i (nI 2) j (nI q)) || gOp n P i (nI 3) && decide (0 < gSh P i (nI 3) j (nI q)))))) := by
  have e1 : (j * 4 + q) / 4 = j := by omega
  have e2 : (j * 4 + q) % 4 = q := by omega
  have hc : ∀ k, k < 4 → bt (aC (i * 4 + k)) (j * 4 + q) = (gOp n P i (nI k) && (gOp n P j (nI q) && decide (0 < gSh P i (nI k) j (nI q)))) := by
    intro k hk
    have hm : ∀ a b, a < n → b < 4 → hB (aO a) (nI b) = gOp n P a (nI b) := by
      intro a b ha hb
      rw [(hO a ha).1]
      rw [hB_bt _ (by omega), gMk_bt (by omega), decide_eq_true hb, Bool.true_and]
    rw [hC i (by omega) k hk, gLc_bt h8 (by omega) (by omega), e1, e2, hm i k (by omega) hk, hm j q hj hq, decide_eq_true (show i < j ∧ j < n from ⟨hij, hj⟩)]
    simp
  unfold gPM
  rw [gF4]
  unfold gPMF
  rw [b_or, b_or, b_or, b_or, b_0, hc 0 (by decide), hc 1 (by decide), hc 2 (by decide), hc 3 (by decide)]
  cases gOp n P j (nI q) <;> simp [Bool.or_assoc]
theorem low4 (x : Int32) : x &&& 15 = 0 ↔ ∀ q, q < 4 → bt x q = false := by
  have h15 : ∀ k, k < 32 → bt 15 k = decide (k < 4) := by decide +kernel
  constructor
  · intro h q hq
    have : bt (x &&& 15) q = false := by rw [h, b_0]
    rw [b_and, h15 q (by omega), decide_eq_true hq, Bool.and_true] at this
    exact this
  · intro h
    refine b_ext (fun k hk => ?_)
    rw [b_and, b_0, h15 k hk]
    by_cases hq : k < 4
    · rw [h k hq]; rfl
    · rw [decide_eq_false hq, Bool.and_false]
theorem mMy_iff {i j : Nat} : mMy n P i j = true ↔ ∃ k, k < 16 ∧ mMC n P i j k = true := by
  unfold mMy
  rw [gE_iff 16 0 (by omega)]
  exact ⟨fun ⟨k, _, h1, h2⟩ => ⟨k, h1, h2⟩, fun ⟨k, h1, h2⟩ => ⟨k, Nat.zero_le k, h1, h2⟩⟩
theorem gPJ_same {n : Nat} {P : Nat → Nat → Int32} {aO aW aN aC : Nat → Int32} (h8 : n ≤ 8) (hO : lkI n n P aO aW aN) (hC : lcI n n aO P aC) {i j : Nat} (hij : i < j) (hj : j < n) (a : Int32) : gPJ (gPM aC i) j a = mCgF n P i j a := by
  have key : (((gPM aC i).toUInt32 >>> ((nI (j * 4)).toUInt32 &&& Int32.toUInt32 31)).toInt32 &&& 15) = 0 ↔ mMy n P i j = false := by
    rw [low4, ← Bool.not_eq_true, mMy_iff]
    constructor
    · rintro h ⟨k, hk, hm⟩
      have := h (k % 4) (by omega)
      rw [b_ushr _ (by omega), gPM_bt h8 hO hC hij hj (by omega)] at this
      unfold mMC at hm
      rw [Bool.and_eq_true, Bool.and_eq_true] at hm
      obtain ⟨m1, m2, m3⟩ := hm
      rw [m2, Bool.true_and] at this
      rcases (show k / 4 = 0 ∨ k / 4 = 1 ∨ k / 4 = 2 ∨ k / 4 = 3 by omega) with z | z | z | z <;> rw [z] at m1 m3 <;> simp [m1, m3] at this
    · intro h q hq
      rw [b_ushr _ (by omega), gPM_bt h8 hO hC hij hj hq]
      cases hz : gOp n P j (nI q) with
      | false => rfl
      | true =>
        have hk : ∀ k, k < 4 → (gOp n P i (nI k) && decide (0 < gSh P i (nI k) j (nI q))) = false := by
          intro k hk
          cases hw : (gOp n P i (nI k) && decide (0 < gSh P i (nI k) j (nI q))) with
          | false => rfl
          | true =>
            refine absurd ⟨k * 4 + q, by omega, ?_⟩ h
            unfold mMC
            rw [show (k * 4 + q) / 4 = k by omega, show (k * 4 + q) % 4 = q by omega, hz]
            simpa using hw
        rw [hk 0 (by decide), hk 1 (by decide), hk 2 (by decide), hk 3 (by decide)]
        rfl
  unfold gPJ mCgF
  cases hm : mMy n P i j with
  | true => rw [if_neg (fun q => by rw [key.mp q] at hm; exact absurd hm (by decide)), if_pos rfl]
  | false => rw [if_pos (key.mpr hm), if_neg (by decide)]
theorem gF_congr2 {n q : Nat} {f g : Nat → Int32 → Int32} (h : ∀ i, q ≤ i → i < n → ∀ a, f i a = g i a) : ∀ (k i : Nat) (a : Int32), q ≤ i → i + k = n → gF n f i a = gF n g i a
  | 0, i, a, _, hk => by rw [gF_end (by omega), gF_end (by omega)]
  | k + 1, i, a, hq, hk => by
    rw [gF_step (n := n) (f := f) (i := i) (by omega), gF_step (n := n) (f := g) (i := i) (by omega), h i hq (by omega)]
    exact gF_congr2 h k (i + 1) _ (by omega) (by omega)
theorem gCP_same {n : Nat} {P : Nat → Nat → Int32} {aO aW aN aC : Nat → Int32} (h8 : n ≤ 8) (hO : lkI n n P aO aW aN) (hC : lcI n n aO P aC) : gCP n aC = mCg n P := by
  unfold gCP mCg
  refine gF_congr (fun i hi a => ?_) n 0 0 (by omega)
  unfold gCPF mCgR
  exact gF_congr2 (q := i + 1) (fun j h1 h2 b => gPJ_same h8 hO hC (by omega) h2 b) (n - (i + 1)) (i + 1) a (Nat.le_refl _) (by omega)
end INV
