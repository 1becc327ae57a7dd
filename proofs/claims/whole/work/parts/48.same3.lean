section SAME3
variable {n : Nat} {P : Nat → Nat → Int32} {aO aW aN aC aA aM aG aT aH aF aR : Nat → Int32} {kS : Int32}
theorem nS_ti (h8 : n ≤ 8) (hN : ∀ j, j < n → aN j = P j 5) : ∀ q, q ≤ n → (gF q (frNF aN) 0 0).toInt = nS P q
  | 0, _ => by rw [gF_end (Nat.le_refl 0), nS, ti_0]
  | q + 1, hq => by
    have h1 := nS_ti h8 hN q (by omega)
    have h2 := nS_rng (P := P) q
    rw [gF_snoc q 0 0 (by omega), nS]
    generalize gF q (frNF aN) 0 0 = a at h1 ⊢
    unfold frNF
    rw [hN q (by omega)]
    by_cases h : P q 5 = -1
    · rw [if_pos h, if_pos h, h1]; omega
    · rw [if_neg h, if_neg h, ti_add (by rw [ti_1]; omega) (by rw [ti_1]; omega), ti_1, h1]
/-- making room: the class finds what the reference finds -/
theorem same_room (h8 : n ≤ 8) (hbk : bd_ok n P) (hO : lkI n n P aO aW aN) (hC : lcI n n aO P aC) {w : Nat} (hw : w < n) (hwd : P w 5 = -1) (hF : frI n aO aN w aA aM aG) (hT : topOk n aA aG kS aT aH) (pl : Nat → Int32) :
    (if (skM aC aA aM aG aT aH kS n 0 0 0 (-1, aF, aR)).1 = -1 then (-1 : Int32) else gF n (frNF aN) 0 0 - (skM aC aA aM aG aT aH kS n 0 0 0 (-1, aF, aR)).1) = mMr n P w pl ∧
    (¬ mMr n P w pl = -1 → ∀ j, j < n → (skM aC aA aM aG aT aH kS n 0 0 0 (-1, aF, aR)).2.1 j = lay ((mRm n P w pl).2 j)) := by
  have hAe : ∀ i, i < n → ∀ c, c < 5 → (fun j c => mBt (alR n P w j) c) i c = mBt (alR n P w i) c := fun _ _ _ _ => rfl
  have hfs : ∀ j, j < n → frS aN w j = decide (j = w ∨ ¬ P j 5 = -1) := by
    intro j hj
    unfold frS
    rw [(hO j hj).2.2, Bool.decide_or]
  have hmk : ∀ j, j < n → ∀ k, k < 32 → mBt (alR n P w j) k = (if frS aN w j then (decide (k < 4) && gOp n P j (nI k)) else decide (k = 4)) := by
    intro j hj k hk
    rw [bt_mBt _ hk, hfs j hj]
    unfold alR
    by_cases hm : j = w ∨ ¬ P j 5 = -1
    · rw [if_pos hm, gMk_bt hk, decide_eq_true hm, if_pos rfl]
    · rw [if_neg hm, bt16 k hk, decide_eq_false hm, if_neg (by decide)]
  have hsk : skH n P (fun j c => mBt (alR n P w j) c) aO aC aA aM aG aT aH kS := by
    refine same_skH h8 hO hC (fun j hj k hk => ?_) (fun j hj k hk ha => ?_) (fun j hj => ?_) (fun j hj k hk => ?_) hT
    · show _ = (decide (k < 4) && mBt (alR n P w j) k)
      rw [hmk j hj k hk, (hF j hj).1]
      cases hm : frS aN w j with
      | true =>
        rw [if_pos rfl, if_pos rfl, (hO j hj).1, gMk_bt hk]
        by_cases h4 : k < 4
        · rw [decide_eq_true h4]; rfl
        · rw [decide_eq_false h4]; rfl
      | false =>
        rw [if_neg (by decide), if_neg (by decide), b_0]
        by_cases h4 : k < 4
        · rw [decide_eq_false (show ¬ k = 4 by omega)]; simp
        · rw [decide_eq_false h4]; rfl
    · have h1 : mBt (alR n P w j) k = true := ha
      rw [hmk j hj k (by omega)] at h1
      cases hm : frS aN w j with
      | true =>
        rw [hm, if_pos rfl, decide_eq_true hk] at h1
        simpa using h1
      | false =>
        rw [hm, if_neg (by decide), decide_eq_true_iff] at h1
        omega
    · show mBt (alR n P w j) 4 = _
      rw [hmk j hj 4 (by omega), (hF j hj).2.1]
      cases hm : frS aN w j with
      | true => rw [if_pos rfl]; rfl
      | false => rw [if_neg (by decide)]; decide
    · rw [(hF j hj).2.2 k hk]
      split
      · rw [ti_1]; omega
      · rw [ti_0]; omega
  have hA4 : ∀ i, i < n → ¬ P i 5 = -1 → (fun j c => mBt (alR n P w j) c) i 4 = false := by
    intro i hi h5
    show mBt (alR n P w i) 4 = false
    rw [hmk i hi 4 (by omega), hfs i hi, decide_eq_true (Or.inr h5), if_pos rfl]
    rfl
  have hwe : scS (gG aG) n = scS (gU P) n := by
    funext u
    refine scS_gcongr n u (fun j hj => ?_)
    unfold gG gU
    by_cases h4 : u j < 4
    · rw [if_pos h4, (hF j hj).2.2 _ h4, (hO j hj).2.2]
      by_cases h5 : P j 5 = nI (u j)
      · rw [if_pos h5, if_pos ⟨h4, h5⟩, ti_1]
      · rw [if_neg h5, if_neg (fun z => h5 z.2), ti_0]
    · rw [if_neg h4, if_neg (fun z => h4 z.1)]
  have r1 := (skM_fold (f0 := aF) hsk n 0 (by omega) 0 0 (-1, aF, aR) (fun _ => 0) (-1, none) (Rb_0 n _ P _) (fun j hj => absurd hj (Nat.not_lt_zero j)) (by rw [ti_0]; rfl) ⟨m1_ti, fun _ _ => rfl⟩ (fun j hj => absurd hj (Nat.not_lt_zero j))).1
  have r2 := srM1_fold (A := fun j c => mBt (alR n P w j) c) h8 hbk hAe hA4 n 0 (by omega) (fun _ => 0) (-1, none) (-1, pl) (fun j hj => absurd hj (Nat.not_lt_zero j)) ⟨fun _ => ⟨rfl, rfl⟩, fun u hu => absurd hu (by simp)⟩
  rw [hwe] at r1
  have hmr : mMr n P w pl = (mRm n P w pl).1 := by unfold mMr; rw [if_pos hwd]
  have hnt := nS_ti h8 (fun j hj => (hO j hj).2.2) n (Nat.le_refl n)
  have hns := nS_rng (P := P) n
  rw [hmr]
  obtain ⟨a1, a2⟩ := r1
  have hsome := fB_some (w := scS (gU P) n) (cps (fun j c => mBt (alR n P w j) c) P n 0 (fun _ => 0)) (-1, none)
  generalize hzz : (cps (fun j c => mBt (alR n P w j) c) P n 0 (fun _ => 0)).foldl (fB (scS (gU P) n)) (-1, none) = z at a1 a2 r2 hsome
  have r2' : RelR n P z (mRm n P w pl) := r2
  cases hz : z.2 with
  | none =>
    obtain ⟨c1, c2⟩ := r2'.1 hz
    have e1 : (skM aC aA aM aG aT aH kS n 0 0 0 (-1, aF, aR)).1 = -1 := ti_inj (by rw [a1, c1, m1_ti])
    rw [if_pos e1, c2]
    exact ⟨rfl, fun q => absurd rfl q⟩
  | some u =>
    obtain ⟨c1, c2, c3, c4⟩ := r2'.2 u hz
    rw [hz] at a2
    have e1 : ¬ (skM aC aA aM aG aT aH kS n 0 0 0 (-1, aF, aR)).1 = -1 := by
      intro q
      rw [q, m1_ti] at a1
      omega
    rw [if_neg e1]
    refine ⟨ti_inj (by rw [ti_sub (by rw [hnt, a1]; omega) (by rw [hnt, a1]; omega), hnt, a1, c3]), fun _ j hj => ?_⟩
    have hmem : u ∈ cps (fun j c => mBt (alR n P w j) c) P n 0 (fun _ => 0) := by
      rcases hsome u hz with q | q
      · exact absurd q (by simp)
      · exact q
    have h5 := ((cps_pre n 0 _ u hmem).2 j (Nat.zero_le j) (by omega)).1
    have e2 : (skM aC aA aM aG aT aH kS n 0 0 0 (-1, aF, aR)).2.1 j = cd (u j) := a2 j hj
    rw [e2, c4 j hj, lay_cd h5]
end SAME3
