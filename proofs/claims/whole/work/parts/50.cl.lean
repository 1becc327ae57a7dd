theorem c_X2_hv (l : Launch) (D : va_G) {op xO xW xN xC xA xM xG xT xH xR xF xB xX ob oc : Nat} {cI cZ : ClassId} {n : Nat} {P : Nat → Nat → Int32} {kS kF kT : Int32} {aO aW aN aC aA aM aG aT aH aR aF aB aX f : Nat → Int32} (hn8 : n ≤ 8) (hbk : bd_ok n P) (hO : lkI n n P aO aW aN) (hC : lcI n n aO P aC) (wo : Int32) : wr_M l yX2_findHeaviest wsX2_findHeaviest ({ frames := 12, cells := 0, slots := 0, locals := 345 } : Room) D (PlW op xO xW xN xC xA xM xG xT xH xR xF xB xX ob oc cI cZ (nI n) aO aW aN aC aA kS aM aG aT aH aR aF kF aB kT aX (nI n) f) [(cI, .int), (cZ, .boolean)] [.ref op, .int wo] (fun v w9 => ∃ (kS9 : Int32) (aA9 aM9 aG9 aT9 aH9 aR9 aF9 : Nat → Int32), (∀ j, j < n → aF9 j = lay ((mHv n P wo (fun _ => 0)).2 j)) ∧ v = some (.int (hvW n P wo)) ∧ w9 = PlW op xO xW xN xC xA xM xG xT xH xR xF xB xX ob oc cI cZ (nI n) aO aW aN aC aA9 kS9 aM9 aG9 aT9 aH9 aR9 aF9 (hvW n P wo) aB kT aX (nI n) f) := by
  refine wr_mono (c_X2_findHeaviest (P := P) l D hn8 wo) ?_
  rintro v w9 ⟨aA9, aM9, aG9, hF, kS9, aT9, aH9, hT, rfl, rfl⟩
  obtain ⟨e1, e2⟩ := same_heaviest (aF := aF) (aR := aR) hn8 hbk hO hC hF hT (fun _ => 0)
  refine ⟨kS9, aA9, aM9, aG9, aT9, aH9, (skM aC aA9 aM9 aG9 aT9 aH9 kS9 n 0 0 0 (-1, aF, aR)).2.2, _, e2, ?_, ?_⟩
  · rw [e1]; rfl
  · rw [e1]; rfl
theorem c_X2_room (l : Launch) (D : va_G) {op xO xW xN xC xA xM xG xT xH xR xF xB xX ob oc : Nat} {cI cZ : ClassId} {n : Nat} {P : Nat → Nat → Int32} {kS kF kT : Int32} {aO aW aN aC aA aM aG aT aH aR aF aB aX f : Nat → Int32} (hn8 : n ≤ 8) (hbk : bd_ok n P) (hO : lkI n n P aO aW aN) (hC : lcI n n aO P aC) {wt : Nat} (hwt : wt < n) : wr_M l yX2_findRoom wsX2_findRoom ({ frames := 12, cells := 0, slots := 0, locals := 345 } : Room) D (PlW op xO xW xN xC xA xM xG xT xH xR xF xB xX ob oc cI cZ (nI n) aO aW aN aC aA kS aM aG aT aH aR aF kF aB kT aX (nI n) f) [(cI, .int), (cZ, .boolean)] [.ref op, .int (nI wt)] (fun v w9 => (¬ P wt 5 = -1 ∧ v = some (.int (-1)) ∧ w9 = PlW op xO xW xN xC xA xM xG xT xH xR xF xB xX ob oc cI cZ (nI n) aO aW aN aC aA kS aM aG aT aH aR aF kF aB kT aX (nI n) f) ∨ (P wt 5 = -1 ∧ v = some (.int (mMr n P wt (fun _ => 0))) ∧ ∃ (kS9 kF9 : Int32) (aA9 aM9 aG9 aT9 aH9 aR9 aF9 : Nat → Int32), (¬ mMr n P wt (fun _ => 0) = -1 → ∀ j, j < n → aF9 j = lay ((mRm n P wt (fun _ => 0)).2 j)) ∧ w9 = PlW op xO xW xN xC xA xM xG xT xH xR xF xB xX ob oc cI cZ (nI n) aO aW aN aC aA9 kS9 aM9 aG9 aT9 aH9 aR9 aF9 kF9 aB kT aX (nI n) f)) := by
  refine wr_mono (c_X2_findRoom (P := P) l D hn8 hwt) ?_
  rintro v w9 (⟨h1, rfl, rfl⟩ | ⟨h1, aA9, aM9, aG9, hF, kS9, aT9, aH9, hT, rfl, rfl⟩)
  · exact Or.inl ⟨by rw [← (hO wt hwt).2.2]; exact h1, rfl, rfl⟩
  · rw [(hO wt hwt).2.2] at h1
    obtain ⟨e1, e2⟩ := same_room (aF := aF) (aR := aR) hn8 hbk hO hC hwt h1 hF hT (fun _ => 0)
    refine Or.inr ⟨h1, ?_, kS9, _, aA9, aM9, aG9, aT9, aH9, _, _, e2, rfl⟩
    rw [e1]
theorem c_X2_full (l : Launch) (D : va_G) {op xO xW xN xC xA xM xG xT xH xR xF xB xX ob oc : Nat} {cI cZ : ClassId} {n : Nat} {P : Nat → Nat → Int32} {kS kF kT : Int32} {aO aW aN aC aA aM aG aT aH aR aF aB aX f : Nat → Int32} (hn8 : n ≤ 8) (hbk : bd_ok n P) (hO : lkI n n P aO aW aN) (hC : lcI n n aO P aC) : wr_M l yX2_fullOnes wsX2_fullOnes ({ frames := 11, cells := 0, slots := 0, locals := 324 } : Room) D (PlW op xO xW xN xC xA xM xG xT xH xR xF xB xX ob oc cI cZ (nI n) aO aW aN aC aA kS aM aG aT aH aR aF kF aB kT aX (nI n) f) [(cI, .int), (cZ, .boolean)] [.ref op] (fun v w9 => v = some (.int ((mFu n P (fun _ => 0)).1)) ∧ w9 = PlW op xO xW xN xC xA xM xG xT xH xR xF xB xX ob oc cI cZ (nI n) aO aW aN aC aA kS aM aG aT aH aR aF kF aB kT aX (nI n) f) := by
  refine wr_mono (c_X2_fullOnes (P := P) l D hn8) ?_
  rintro v w9 ⟨rfl, rfl⟩
  exact ⟨by rw [same_full hn8 hbk hO hC (fun _ => 0)], rfl⟩
set_option maxHeartbeats 4000000 in
set_option maxRecDepth 100000 in
theorem c_X2_findBest (l : Launch) (D : va_G) {op xO xW xN xC xA xM xG xT xH xR xF xB xX ob oc : Nat} {cI : ClassId} {cZ : ClassId} {n : Nat} {P : Nat → Nat → Int32} {kS kF kT : Int32} {aO aW aN aC aA aM aG aT aH aR aF aB aX f : Nat → Int32} (hn8 : n ≤ 8) (hbk : bd_ok n P) (hO : lkI n n P aO aW aN) (hC : lcI n n aO P aC) : wr_M l yX2_findBest wsX2_findBest ({ frames := 13, cells := 0, slots := 0, locals := 368 } : Room) D (PlW op xO xW xN xC xA xM xG xT xH xR xF xB xX ob oc cI cZ (nI n) aO aW aN aC aA kS aM aG aT aH aR aF kF aB kT aX (nI n) f) [(cI, .int), (cZ, .boolean)] [.ref op] (fun v w9 => v = none ∧ ∃ (kS9 : Int32) (aA9 aM9 aG9 aT9 aH9 aR9 aF9 : Nat → Int32), ∃ aB9 : Nat → Int32, (∀ j, j < n → aB9 j = lay ((mHv n P (-1) (fun _ => 0)).2 j)) ∧ w9 = PlW op xO xW xN xC xA xM xG xT xH xR xF xB xX ob oc cI cZ (nI n) aO aW aN aC aA9 kS9 aM9 aG9 aT9 aH9 aR9 aF9 (hvW n P (-1)) aB9 (hvW n P (-1)) aX (nI n) f) := by
  refine wr_of (cc := cX2_findBest) (maxL := 1) (ret := none) (by decide) rfl (Nat.le_of_ble_eq_true rfl) ?_
  intro p e s m below meth c hx hb hr hml hts hown hlocks hP hK hN hZ hD hS ls hl
  have hown : s.vm.findClass RX2 = some m.cls := hown
  have hl : lv_has ls 1 [(0, .ref op)] := hl
  have hinX2 : ∀ w ∈ u_ws RX2 TX2 17, w ∈ wsX2_findBest := by decide +kernel
  have hw59 := hts (.fieldLink RX2 59 "CornerLabels$Plans" "topWeight" "I") (by decide +kernel)
  have hw50 := hts (.fieldLink RX2 50 "CornerLabels$Plans" "found" "[I") (by decide +kernel)
  have hw56 := hts (.fieldLink RX2 56 "CornerLabels$Plans" "bestCorners" "[I") (by decide +kernel)
  suffices body : ∀ (H : Heap) (locs : List Loc), va_P D vwCl (PlW op xO xW xN xC xA xM xG xT xH xR xF xB xX ob oc cI cZ (nI n) aO aW aN aC aA kS aM aG aT aH aR aF kF aB kT aX (nI n) f) H → va_D (wr_in (PlW op xO xW xN xC xA xM xG xT xH xR xF xB xX ob oc cI cZ (nI n) aO aW aN aC aA kS aM aG aT aH aR aF kF aB kT aX (nI n) f)) (PlW op xO xW xN xC xA xM xG xT xH xR xF xB xX ob oc cI cZ (nI n) aO aW aN aC aA kS aM aG aT aH aR aF kF aB kT aX (nI n) f) → va_S (wr_in (PlW op xO xW xN xC xA xM xG xT xH xR xF xB xX ob oc cI cZ (nI n) aO aW aN aC aA kS aM aG aT aH aR aF kF aB kT aX (nI n) f)) s.heap H locs → wr_W p l e wsX2_findBest ({ frames := 13, cells := 0, slots := 0, locals := 368 } : Room) s m [.ref op] below meth c D (PlW op xO xW xN xC xA xM xG xT xH xR xF xB xX ob oc cI cZ (nI n) aO aW aN aC aA kS aM aG aT aH aR aF kF aB kT aX (nI n) f) (fun v w9 => v = none ∧ ∃ (kS9 : Int32) (aA9 aM9 aG9 aT9 aH9 aR9 aF9 : Nat → Int32), ∃ aB9 : Nat → Int32, (∀ j, j < n → aB9 j = lay ((mHv n P (-1) (fun _ => 0)).2 j)) ∧ w9 = PlW op xO xW xN xC xA xM xG xT xH xR xF xB xX ob oc cI cZ (nI n) aO aW aN aC aA9 kS9 aM9 aG9 aT9 aH9 aR9 aF9 (hvW n P (-1)) aB9 (hvW n P (-1)) aX (nI n) f) H locs (F0 m 0 ls []) from body _ _ hP hD hS
  clear hP hD hS
  intro H locs hP hD hS
  refine lv_aload_n hx hb dX2_findBest_0 rfl (lv_at hl 0 rfl) ?_
  refine lv_aload_n hx hb dX2_findBest_1 rfl (lv_at hl 0 rfl) ?_
  refine lv_iconst (v := (-1)) hx hb dX2_findBest_2 (by decide) ?_
  refine wr_callV (As := [.int (-1)]) (rest := [.ref op]) ⟨hx, hb, hml, hown, hts⟩ (c_X2_hv l D hn8 hbk hO hC (-1)) (cwV 1 hts gX2_findBest_X2_findHeaviest rfl rfl rfl (by decide +kernel) ⟨by decide, by decide⟩) hK hN hZ hP hD hS [0, 1, 2, 3, 4, 5, 6, 7, 8, 9, 10, 11, 12, 13, 14, 15] [0, 1] rfl (by decide) rfl (q0 := 0) rfl rfl rfl hl.1 rfl (Nat.le_of_ble_eq_true rfl) ⟨by decide, by decide⟩ dX2_findBest_3 (fun v9 w9 H locs hp9 hP hD hS => ?_)
  obtain ⟨kS_3, aA_3, aM_3, aG_3, aT_3, aH_3, aR_3, aF_3, hfd_3, rfl, rfl⟩ := hp9
  have hP : va_P D vwCl (PlW op xO xW xN xC xA xM xG xT xH xR xF xB xX ob oc cI cZ (nI n) aO aW aN aC aA_3 kS_3 aM_3 aG_3 aT_3 aH_3 aR_3 aF_3 (hvW n P (-1)) aB kT aX (nI n) f) H := hP
  have hD : va_D (wr_in (PlW op xO xW xN xC xA xM xG xT xH xR xF xB xX ob oc cI cZ (nI n) aO aW aN aC aA kS aM aG aT aH aR aF kF aB kT aX (nI n) f)) (PlW op xO xW xN xC xA xM xG xT xH xR xF xB xX ob oc cI cZ (nI n) aO aW aN aC aA_3 kS_3 aM_3 aG_3 aT_3 aH_3 aR_3 aF_3 (hvW n P (-1)) aB kT aX (nI n) f) := hD
  refine W.eq (g2 := F0 m 6 ls [.int (hvW n P (-1)), .ref op]) rfl ?_
  refine va_put (D := D) (ci := 2) (v := .int (hvW n P (-1))) (ty := .int) (C := RX2) (T := TX2) (N := 17) hx hb hts hinX2 tyX2 tyX2_ok nmX2 hown hK hP hD hS 0 rfl rfl 15 (by decide) hw59 (fun _ h9 => h9) rfl (by decide +kernel) rfl rfl (Nat.le_of_ble_eq_true rfl) dX2_findBest_6 (fun H locs hP hD hS => ?_)
  have hP : va_P D vwCl (PlW op xO xW xN xC xA xM xG xT xH xR xF xB xX ob oc cI cZ (nI n) aO aW aN aC aA_3 kS_3 aM_3 aG_3 aT_3 aH_3 aR_3 aF_3 (hvW n P (-1)) aB (hvW n P (-1)) aX (nI n) f) H := hP
  have hD : va_D (wr_in (PlW op xO xW xN xC xA xM xG xT xH xR xF xB xX ob oc cI cZ (nI n) aO aW aN aC aA kS aM aG aT aH aR aF kF aB kT aX (nI n) f)) (PlW op xO xW xN xC xA xM xG xT xH xR xF xB xX ob oc cI cZ (nI n) aO aW aN aC aA_3 kS_3 aM_3 aG_3 aT_3 aH_3 aR_3 aF_3 (hvW n P (-1)) aB (hvW n P (-1)) aX (nI n) f) := hD
  refine lv_aload_n hx hb dX2_findBest_9 rfl (lv_at hl 0 rfl) ?_
  refine va_get (D := D) (ci := 2) (v := .ref xF) (C := RX2) (T := TX2) (N := 17) hx hb hts hinX2 hown hK hP 0 rfl rfl 12 (by decide) hw50 (fun _ h9 => h9) rfl dX2_findBest_10 ?_
  refine lv_iconst (v := 0) hx hb dX2_findBest_13 (by decide) ?_
  refine lv_aload_n hx hb dX2_findBest_14 rfl (lv_at hl 0 rfl) ?_
  refine va_get (D := D) (ci := 2) (v := .ref xB) (C := RX2) (T := TX2) (N := 17) hx hb hts hinX2 hown hK hP 0 rfl rfl 14 (by decide) hw56 (fun _ h9 => h9) rfl dX2_findBest_15 ?_
  refine lv_iconst (v := 0) hx hb dX2_findBest_18 (by decide) ?_
  refine lv_bipush (v := 8) hx hb dX2_findBest_19 (by decide) ?_
  refine wr_copy (q0 := 11) (q1 := 12) (t0 := 0) (sp := 0) (dp := 0) (k := 8) hx hb (hml.trans hl.1.symm) hown (hts (.methodLink RX2 94 arraycopyName) (by decide +kernel)) (hts (.native arraycopyName) (by decide +kernel)) (hts (.static arraycopyName) (by decide +kernel)) (hts (.initialized "java/lang/System") (by decide +kernel)) hK hP hD hS rfl rfl rfl (rfl) (rfl) (rfl) (by omega) (by omega) (by decide) (by decide) (by decide) (by decide) dX2_findBest_21 (Nat.le_of_ble_eq_true rfl) (fun H locs hP hD hS => ?_)
  obtain ⟨aB_21, eaB_21⟩ : ∃ zz9 : Nat → Int32, zz9 = va_cpy aF_3 aB 0 0 8 := ⟨_, rfl⟩
  rw [← eaB_21] at hP hD
  have hP : va_P D vwCl (PlW op xO xW xN xC xA xM xG xT xH xR xF xB xX ob oc cI cZ (nI n) aO aW aN aC aA_3 kS_3 aM_3 aG_3 aT_3 aH_3 aR_3 aF_3 (hvW n P (-1)) aB_21 (hvW n P (-1)) aX (nI n) f) H := hP
  have hD : va_D (wr_in (PlW op xO xW xN xC xA xM xG xT xH xR xF xB xX ob oc cI cZ (nI n) aO aW aN aC aA kS aM aG aT aH aR aF kF aB kT aX (nI n) f)) (PlW op xO xW xN xC xA xM xG xT xH xR xF xB xX ob oc cI cZ (nI n) aO aW aN aC aA_3 kS_3 aM_3 aG_3 aT_3 aH_3 aR_3 aF_3 (hvW n P (-1)) aB_21 (hvW n P (-1)) aX (nI n) f) := hD
  exact wr_vret hx hb hr hlocks hP hS rfl dX2_findBest_24 (by exact ⟨rfl, _, _, _, _, _, _, _, _, _, (fun j hj => by rw [eaB_21]; unfold va_cpy; rw [if_pos (by omega), show 0 + (j - 0) = j by omega]; exact hfd_3 j hj), rfl⟩)
set_option maxHeartbeats 4000000 in
set_option maxRecDepth 100000 in
theorem c_X2_findWithoutEach (l : Launch) (D : va_G) {op xO xW xN xC xA xM xG xT xH xR xF xB xX ob oc : Nat} {cI : ClassId} {cZ : ClassId} {n : Nat} {P : Nat → Nat → Int32} {kS kF kT : Int32} {aO aW aN aC aA aM aG aT aH aR aF aB aX f : Nat → Int32} (hn8 : n ≤ 8) (hbk : bd_ok n P) (hO : lkI n n P aO aW aN) (hC : lcI n n aO P aC) : wr_M l yX2_findWithoutEach wsX2_findWithoutEach ({ frames := 13, cells := 0, slots := 0, locals := 368 } : Room) D (PlW op xO xW xN xC xA xM xG xT xH xR xF xB xX ob oc cI cZ (nI n) aO aW aN aC aA kS aM aG aT aH aR aF kF aB kT aX (nI n) f) [(cI, .int), (cZ, .boolean)] [.ref op] (fun v w9 => v = none ∧ ∃ (kS9 kF9 : Int32) (aA9 aM9 aG9 aT9 aH9 aR9 aF9 aX9 : Nat → Int32), (∀ j, j < n → aX9 j = hvW n P (nI j)) ∧ w9 = PlW op xO xW xN xC xA xM xG xT xH xR xF xB xX ob oc cI cZ (nI n) aO aW aN aC aA9 kS9 aM9 aG9 aT9 aH9 aR9 aF9 kF9 aB kT aX9 (nI n) f) := by
  refine wr_of (cc := cX2_findWithoutEach) (maxL := 2) (ret := none) (by decide) rfl (Nat.le_of_ble_eq_true rfl) ?_
  intro p e s m below meth c hx hb hr hml hts hown hlocks hP hK hN hZ hD hS ls hl
  have hown : s.vm.findClass RX2 = some m.cls := hown
  have hl : lv_has ls 2 [(0, .ref op)] := hl
  have hinX2 : ∀ w ∈ u_ws RX2 TX2 17, w ∈ wsX2_findWithoutEach := by decide +kernel
  have hw9 := hts (.fieldLink RX2 9 "CornerLabels$Plans" "points" "I") (by decide +kernel)
  have hw62 := hts (.fieldLink RX2 62 "CornerLabels$Plans" "weightsWithout" "[I") (by decide +kernel)
  suffices body : ∀ (H : Heap) (locs : List Loc), va_P D vwCl (PlW op xO xW xN xC xA xM xG xT xH xR xF xB xX ob oc cI cZ (nI n) aO aW aN aC aA kS aM aG aT aH aR aF kF aB kT aX (nI n) f) H → va_D (wr_in (PlW op xO xW xN xC xA xM xG xT xH xR xF xB xX ob oc cI cZ (nI n) aO aW aN aC aA kS aM aG aT aH aR aF kF aB kT aX (nI n) f)) (PlW op xO xW xN xC xA xM xG xT xH xR xF xB xX ob oc cI cZ (nI n) aO aW aN aC aA kS aM aG aT aH aR aF kF aB kT aX (nI n) f) → va_S (wr_in (PlW op xO xW xN xC xA xM xG xT xH xR xF xB xX ob oc cI cZ (nI n) aO aW aN aC aA kS aM aG aT aH aR aF kF aB kT aX (nI n) f)) s.heap H locs → wr_W p l e wsX2_findWithoutEach ({ frames := 13, cells := 0, slots := 0, locals := 368 } : Room) s m [.ref op] below meth c D (PlW op xO xW xN xC xA xM xG xT xH xR xF xB xX ob oc cI cZ (nI n) aO aW aN aC aA kS aM aG aT aH aR aF kF aB kT aX (nI n) f) (fun v w9 => v = none ∧ ∃ (kS9 kF9 : Int32) (aA9 aM9 aG9 aT9 aH9 aR9 aF9 aX9 : Nat → Int32), (∀ j, j < n → aX9 j = hvW n P (nI j)) ∧ w9 = PlW op xO xW xN xC xA xM xG xT xH xR xF xB xX ob oc cI cZ (nI n) aO aW aN aC aA9 kS9 aM9 aG9 aT9 aH9 aR9 aF9 kF9 aB kT aX9 (nI n) f) H locs (F0 m 0 ls []) from body _ _ hP hD hS
  clear hP hD hS
  intro H locs hP hD hS
  refine lv_iconst (v := 0) hx hb dX2_findWithoutEach_0 (by decide) ?_
  refine lv_istore_n (lv' := [(1, .int 0), (0, .ref op)]) hx hb dX2_findWithoutEach_1 rfl hl (by decide) rfl (fun ls hl => ?_)
  suffices loop2 : ∀ (k2 i : Nat) (q1 : Int32) (q2 : Nat → Int32) (q3 : Nat → Int32) (q4 : Nat → Int32) (q5 : Nat → Int32) (q6 : Nat → Int32) (q7 : Nat → Int32) (q8 : Nat → Int32) (q9 : Int32) (x1 : Nat → Int32) (H : Heap) (locs : List Loc) (ls : Array Slot), i ≤ n → n + 1 ≤ i + k2 → (alI i (fun j => hvW n P (nI j)) x1) → va_P D vwCl (PlW op xO xW xN xC xA xM xG xT xH xR xF xB xX ob oc cI cZ (nI n) aO aW aN aC q2 q1 q3 q4 q5 q6 q7 q8 q9 aB kT x1 (nI n) f) H → va_D (wr_in (PlW op xO xW xN xC xA xM xG xT xH xR xF xB xX ob oc cI cZ (nI n) aO aW aN aC aA kS aM aG aT aH aR aF kF aB kT aX (nI n) f)) (PlW op xO xW xN xC xA xM xG xT xH xR xF xB xX ob oc cI cZ (nI n) aO aW aN aC q2 q1 q3 q4 q5 q6 q7 q8 q9 aB kT x1 (nI n) f) → va_S (wr_in (PlW op xO xW xN xC xA xM xG xT xH xR xF xB xX ob oc cI cZ (nI n) aO aW aN aC aA kS aM aG aT aH aR aF kF aB kT aX (nI n) f)) s.heap H locs → lv_has ls 2 [(0, .ref op), (1, .int (nI i))] → wr_W p l e wsX2_findWithoutEach ({ frames := 13, cells := 0, slots := 0, locals := 368 } : Room) s m [.ref op] below meth c D (PlW op xO xW xN xC xA xM xG xT xH xR xF xB xX ob oc cI cZ (nI n) aO aW aN aC aA kS aM aG aT aH aR aF kF aB kT aX (nI n) f) (fun v w9 => v = none ∧ ∃ (kS9 kF9 : Int32) (aA9 aM9 aG9 aT9 aH9 aR9 aF9 aX9 : Nat → Int32), (∀ j, j < n → aX9 j = hvW n P (nI j)) ∧ w9 = PlW op xO xW xN xC xA xM xG xT xH xR xF xB xX ob oc cI cZ (nI n) aO aW aN aC aA9 kS9 aM9 aG9 aT9 aH9 aR9 aF9 kF9 aB kT aX9 (nI n) f) H locs (F0 m 2 ls []) from
    loop2 (n + 1) 0 kS aA aM aG aT aH aR aF kF aX H locs ls (by omega) (by omega) (by exact fun j hj => absurd hj (by omega)) hP hD hS (lv_sub hl [1, 0] rfl)
  intro k2
  induction k2 with
  | zero => intro i q1 q2 q3 q4 q5 q6 q7 q8 q9 x1 H locs ls h1 h2; exact absurd h2 (by omega)
  | succ k2 ih2 =>
    intro i q1 q2 q3 q4 q5 q6 q7 q8 q9 x1 H locs ls hle2 hlt2 inv2 hP hD hS hl
    refine lv_iload_n hx hb dX2_findWithoutEach_2 rfl (lv_at hl 1 rfl) ?_
    refine lv_aload_n hx hb dX2_findWithoutEach_3 rfl (lv_at hl 0 rfl) ?_
    refine va_get (D := D) (ci := 2) (v := .int (nI n)) (C := RX2) (T := TX2) (N := 17) hx hb hts hinX2 hown hK hP 0 rfl rfl 0 (by decide) hw9 (fun _ h9 => h9) rfl dX2_findWithoutEach_4 ?_
    refine rd_icmp_ge_n (a := i) (b := n) (tgt := 27) (by omega) (by omega) hx hb dX2_findWithoutEach_7 (by decide) (fun c_7 => ?_) (fun c_7 => ?_)
    · have c_7n := Nat.not_lt.mpr c_7
      exact wr_vret hx hb hr hlocks hP hS rfl dX2_findWithoutEach_27 (by exact ⟨rfl, _, _, _, _, _, _, _, _, _, _, (fun j hj => inv2 j (by omega)), rfl⟩)
    · have c_7n := Nat.not_le.mpr c_7
      refine lv_aload_n hx hb dX2_findWithoutEach_10 rfl (lv_at hl 0 rfl) ?_
      refine va_get (D := D) (ci := 2) (v := .ref xX) (C := RX2) (T := TX2) (N := 17) hx hb hts hinX2 hown hK hP 0 rfl rfl 16 (by decide) hw62 (fun _ h9 => h9) rfl dX2_findWithoutEach_11 ?_
      refine lv_iload_n hx hb dX2_findWithoutEach_14 rfl (lv_at hl 1 rfl) ?_
      refine lv_aload_n hx hb dX2_findWithoutEach_15 rfl (lv_at hl 0 rfl) ?_
      refine lv_iload_n hx hb dX2_findWithoutEach_16 rfl (lv_at hl 1 rfl) ?_
      refine wr_callV (As := [.int (nI i)]) (rest := [.int (nI i), .ref xX]) ⟨hx, hb, hml, hown, hts⟩ (c_X2_hv l D hn8 hbk hO hC (nI i)) (cwV 1 hts gX2_findWithoutEach_X2_findHeaviest rfl rfl rfl (by decide +kernel) ⟨by decide, by decide⟩) hK hN hZ hP hD hS [0, 1, 2, 3, 4, 5, 6, 7, 8, 9, 10, 11, 12, 13, 14, 15] [0, 1] rfl (by decide) rfl (q0 := 0) rfl rfl rfl hl.1 rfl (Nat.le_of_ble_eq_true rfl) ⟨by decide, by decide⟩ dX2_findWithoutEach_17 (fun v9 w9 H locs hp9 hP hD hS => ?_)
      obtain ⟨kS_17, aA_17, aM_17, aG_17, aT_17, aH_17, aR_17, aF_17, hfd_17, rfl, rfl⟩ := hp9
      have hP : va_P D vwCl (PlW op xO xW xN xC xA xM xG xT xH xR xF xB xX ob oc cI cZ (nI n) aO aW aN aC aA_17 kS_17 aM_17 aG_17 aT_17 aH_17 aR_17 aF_17 (hvW n P (nI i)) aB kT x1 (nI n) f) H := hP
      have hD : va_D (wr_in (PlW op xO xW xN xC xA xM xG xT xH xR xF xB xX ob oc cI cZ (nI n) aO aW aN aC aA kS aM aG aT aH aR aF kF aB kT aX (nI n) f)) (PlW op xO xW xN xC xA xM xG xT xH xR xF xB xX ob oc cI cZ (nI n) aO aW aN aC aA_17 kS_17 aM_17 aG_17 aT_17 aH_17 aR_17 aF_17 (hvW n P (nI i)) aB kT x1 (nI n) f) := hD
      refine W.eq (g2 := F0 m 20 ls [.int (hvW n P (nI i)), .int (nI i), .ref xX]) rfl ?_
      refine wr_ast (q0 := 13) (t0 := 0) (j := i) hx hb hK hP hD hS rfl rfl (rfl) (by omega) (by decide) dX2_findWithoutEach_20 (fun H locs hP hD hS => ?_)
      obtain ⟨aX_20, eaX_20⟩ : ∃ zz9 : Nat → Int32, zz9 = upd x1 i (hvW n P (nI i)) := ⟨_, rfl⟩
      rw [← eaX_20] at hP hD
      have hP : va_P D vwCl (PlW op xO xW xN xC xA xM xG xT xH xR xF xB xX ob oc cI cZ (nI n) aO aW aN aC aA_17 kS_17 aM_17 aG_17 aT_17 aH_17 aR_17 aF_17 (hvW n P (nI i)) aB kT aX_20 (nI n) f) H := hP
      have hD : va_D (wr_in (PlW op xO xW xN xC xA xM xG xT xH xR xF xB xX ob oc cI cZ (nI n) aO aW aN aC aA kS aM aG aT aH aR aF kF aB kT aX (nI n) f)) (PlW op xO xW xN xC xA xM xG xT xH xR xF xB xX ob oc cI cZ (nI n) aO aW aN aC aA_17 kS_17 aM_17 aG_17 aT_17 aH_17 aR_17 aF_17 (hvW n P (nI i)) aB kT aX_20 (nI n) f) := hD
      refine lv_iinc (v := nI (i + 1)) (lv' := [(1, .int (nI (i + 1))), (0, .ref op)]) hx hb dX2_findWithoutEach_21 hl (k := 1) rfl (nI_add i 1) (by decide) rfl (fun ls hl => ?_)
      refine lv_goto (tgt := 2) hx hb dX2_findWithoutEach_24 (by decide) ?_
      exact ih2 (i + 1) kS_17 aA_17 aM_17 aG_17 aT_17 aH_17 aR_17 aF_17 (hvW n P (nI i)) aX_20 H locs ls (by omega) (by omega) (by exact alI_step inv2 eaX_20 rfl) hP hD hS (lv_sub hl [1, 0] rfl)
