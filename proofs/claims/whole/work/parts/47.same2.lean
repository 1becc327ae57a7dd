section SAME2
variable {n : Nat} {P : Nat → Nat → Int32} {aO aW aN aC aA aM aG aT aH aF aR : Nat → Int32} {kS : Int32}
/-- the corner that a plan of the reference's tells, in the class's words -/
def lay (x : Int32) : Int32 := if x = 4 then -1 else x
theorem lay_cd {c : Nat} (h : c < 5) : lay (nI c) = cd c := by
  rcases (show c = 0 ∨ c = 1 ∨ c = 2 ∨ c = 3 ∨ c = 4 by omega) with rfl | rfl | rfl | rfl | rfl <;> decide
theorem fB_some {w : (Nat → Nat) → Int} : ∀ (L : List (Nat → Nat)) (z : Int × Option (Nat → Nat)) (u : Nat → Nat), (L.foldl (fB w) z).2 = some u → z.2 = some u ∨ u ∈ L
  | [], z, u, h => Or.inl h
  | t :: L, z, u, h => by
    rw [List.foldl_cons] at h
    rcases fB_some L _ u h with q | q
    · unfold fB at q
      split at q
      · exact Or.inr (by rw [← Option.some.inj q]; exact List.mem_cons_self)
      · exact Or.inl q
    · exact Or.inr (List.mem_cons_of_mem _ q)
theorem fB_nn {w : (Nat → Nat) → Int} {L : List (Nat → Nat)} {t : Nat → Nat} (ht : t ∈ L) (h0 : 0 ≤ w t) {z : Int × Option (Nat → Nat)} (hz : z = (-1, none)) : ∃ u, (L.foldl (fB w) z).2 = some u := by
  have key : ∀ (L : List (Nat → Nat)) (z : Int × Option (Nat → Nat)), (∃ u, z.2 = some u) ∨ z = (-1, none) → (∃ u, (L.foldl (fB w) z).2 = some u) ∨ L.foldl (fB w) z = (-1, none) := by
    intro L
    induction L with
    | nil => intro z h; exact h
    | cons a L ih =>
      intro z h
      rw [List.foldl_cons]
      refine ih _ ?_
      unfold fB
      split
      · exact Or.inl ⟨a, rfl⟩
      · exact h
  rcases key L z (Or.inr hz) with q | q
  · exact q
  · have := (fB_ge (w := w) L z).2 t ht
    rw [q] at this
    have h1 : w t ≤ -1 := this
    omega
theorem same_skH (h8 : n ≤ 8) (hO : lkI n n P aO aW aN) (hC : lcI n n aO P aC) {A : Nat → Nat → Bool} (hA : ∀ j, j < n → ∀ k, k < 32 → bt (aA j) k = (decide (k < 4) && A j k)) (hAO : ∀ j, j < n → ∀ k, k < 4 → A j k = true → gOp n P j (nI k) = true) (hM : ∀ j, j < n → A j 4 = decide (¬ aM j = 0)) (hG : ∀ j, j < n → ∀ k, k < 4 → 0 ≤ (aG (j * 4 + k)).toInt ∧ (aG (j * 4 + k)).toInt ≤ 99) (hT : topOk n aA aG kS aT aH) : skH n P A aO aC aA aM aG aT aH kS :=
  ⟨h8, fun j hj => (hO j hj).1, fun j hj k hk => hC j hj k hk, hA, hAO, hM, hG, hT⟩
theorem dropped_mem {A : Nat → Nat → Bool} (hA4 : ∀ j, j < n → A j 4 = true) : ∀ (d i : Nat) (t : Nat → Nat), i + d = n → ∃ u, u ∈ cps A P d i t
  | 0, i, t, _ => ⟨t, by rw [cps]; exact List.mem_singleton.mpr rfl⟩
  | d + 1, i, t, h => by
    obtain ⟨u, hu⟩ := dropped_mem hA4 d (i + 1) (updN t i 4) (by omega)
    exact ⟨u, cps_mem.mpr ⟨4, by omega, feB_iff.mpr ⟨hA4 i (by omega), Or.inl rfl⟩, hu⟩⟩
/-- the heaviest plan: the class finds what the reference finds -/
theorem same_heaviest (h8 : n ≤ 8) (hbk : bd_ok n P) (hO : lkI n n P aO aW aN) (hC : lcI n n aO P aC) {wo : Int32} (hF : fhI n aO aW wo aA aM aG) (hT : topOk n aA aG kS aT aH) (pl : Nat → Int32) :
    (skM aC aA aM aG aT aH kS n 0 0 0 (-1, aF, aR)).1 = (mHv n P wo pl).1 ∧ ∀ j, j < n → (skM aC aA aM aG aT aH kS n 0 0 0 (-1, aF, aR)).2.1 j = lay ((mHv n P wo pl).2 j) := by
  have hAe : ∀ i, i < n → ∀ c, c < 5 → (fun j c => mBt (alH n P wo j) c) i c = mBt (alH n P wo i) c := fun _ _ _ _ => rfl
  have hmk : ∀ j k, k < 32 → mBt (alH n P wo j) k = (decide (¬ nI j = wo) && (decide (k < 4) && gOp n P j (nI k)) || decide (k = 4)) := by
    intro j k hk
    rw [bt_mBt _ hk]
    unfold alH
    by_cases hw : nI j = wo
    · rw [if_pos hw, bt16 k hk, decide_eq_false (show ¬ ¬ nI j = wo from fun q => q hw)]; rfl
    · rw [if_neg hw, b_or, bt16 k hk, gMk_bt hk, decide_eq_true hw]; rfl
  have hsk : skH n P (fun j c => mBt (alH n P wo j) c) aO aC aA aM aG aT aH kS := by
    refine same_skH h8 hO hC (fun j hj k hk => ?_) (fun j hj k hk ha => ?_) (fun j hj => ?_) (fun j hj k hk => ?_) hT
    · show _ = (decide (k < 4) && mBt (alH n P wo j) k)
      rw [hmk j k hk, (hF j hj).1]
      by_cases hw : nI j = wo
      · rw [if_pos hw, b_0, decide_eq_false (show ¬ ¬ nI j = wo from fun q => q hw)]
        by_cases h4 : k < 4
        · rw [decide_eq_false (show ¬ k = 4 by omega)]; simp
        · rw [decide_eq_false h4]; rfl
      · rw [if_neg hw, (hO j hj).1, gMk_bt hk, decide_eq_true hw]
        by_cases h4 : k < 4
        · rw [decide_eq_true h4, decide_eq_false (show ¬ k = 4 by omega)]; simp
        · rw [decide_eq_false h4]; rfl
    · have h1 : mBt (alH n P wo j) k = true := ha
      rw [hmk j k (by omega), decide_eq_false (show ¬ k = 4 by omega), decide_eq_true hk] at h1
      simp at h1
      exact h1.2
    · show mBt (alH n P wo j) 4 = _
      rw [hmk j 4 (by omega), (hF j hj).2.1]
      simp
    · rw [(hF j hj).2.2 k hk, (hO j hj).2.1]
      obtain ⟨-, -, -, -, h, -⟩ := hbk j hj
      omega
  have hw : scS (gG aG) n = scS (gW P) n := by
    funext u
    refine scS_gcongr n u (fun j hj => ?_)
    unfold gG gW
    by_cases h4 : u j < 4
    · rw [if_pos h4, if_pos h4, (hF j hj).2.2 _ h4, (hO j hj).2.1]
    · rw [if_neg h4, if_neg h4]
  have r1 := (skM_fold (f0 := aF) hsk n 0 (by omega) 0 0 (-1, aF, aR) (fun _ => 0) (-1, none) (Rb_0 n _ P _) (fun j hj => absurd hj (Nat.not_lt_zero j)) (by rw [ti_0]; rfl) ⟨m1_ti, fun _ _ => rfl⟩ (fun j hj => absurd hj (Nat.not_lt_zero j))).1
  have r2 := srM0_fold (p0 := pl) h8 hbk hAe n 0 (by omega) (fun _ => 0) (-1, none) (-1, pl) (fun j hj => absurd hj (Nat.not_lt_zero j)) (Int.le_refl _) ⟨m1_ti, fun _ _ => rfl⟩
  rw [hw] at r1
  obtain ⟨u0, hu0⟩ := dropped_mem (n := n) (P := P) (A := fun j c => mBt (alH n P wo j) c) (fun j hj => by show mBt (alH n P wo j) 4 = true; rw [hmk j 4 (by omega)]; simp) n 0 (fun _ => 0) (by omega)
  obtain ⟨u, hu⟩ := fB_nn (w := scS (gW P) n) hu0 (scW_rng hbk u0 n (Nat.le_refl n)).1 (z := (-1, none)) rfl
  obtain ⟨a1, a2⟩ := r1
  obtain ⟨b1, b2⟩ := r2
  rw [hu] at a2 b2
  have hmem : u ∈ cps (fun j c => mBt (alH n P wo j) c) P n 0 (fun _ => 0) := by
    rcases fB_some _ _ u hu with q | q
    · exact absurd q (by simp)
    · exact q
  refine ⟨ti_inj (by rw [a1]; exact b1.symm), fun j hj => ?_⟩
  have h5 := ((cps_pre n 0 _ u hmem).2 j (Nat.zero_le j) (by omega)).1
  have e1 : (skM aC aA aM aG aT aH kS n 0 0 0 (-1, aF, aR)).2.1 j = cd (u j) := a2 j hj
  have e2 : (mHv n P wo pl).2 j = nI (u j) := b2 j hj
  rw [e1, e2, lay_cd h5]
end SAME2
