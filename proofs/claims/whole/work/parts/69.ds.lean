abbrev MdP (om xS xV xB xT xA xP xR : Nat) (cI : ClassId) (t9 : Int32) (A9 : AS) (w9 : va_W) : Prop := ∃ (kBs9 kLf9 kAt9 kWl9 kRm9 : Int32) (hsh9 : Int64) (mS9 mSv9 mTl9 mAl9 mPl9 mRd9 : Nat → Int32), mdS A9.1.1 A9.1.2 mS9 ∧ mdH A9.2.1.1 A9.2.1.2 mSv9 ∧ w9 = MdW om xS xV xB xT xA xP xR cI t9 mS9 mSv9 (nI A9.2.1.1) A9.2.2.2 (nI A9.2.2.1) mTl9 mAl9 mPl9 kBs9 kLf9 kAt9 kWl9 mRd9 kRm9 hsh9
theorem mLy_pl {n : Nat} {P : Nat → Nat → Int32} {a b : Nat → Int32} {S : Nat → Int32} (h : mdS n (mLy P a) S) (e : ∀ i, i < n → a i = b i) : mdS n (mLy P b) S := by
  refine mdS_ext h (fun i hi k => ?_)
  rw [mLy_lay, mLy_lay, e i hi]
theorem s_X5_add (l : Launch) (D : va_G) {om xS xV xB xT xA xP xR : Nat} {cI : ClassId} {thr kBs kLf kAt kWl kRm : Int32} {hsh : Int64} {mS mSv mBf mTl mAl mPl mRd : Nat → Int32} {n q b : Nat} {P : Nat → Nat → Int32} {hs : Nat → BS} (hA : aOK ((n, P), (q, hs), (b, mBf))) (hQ : mdS n P mS) (hH : mdH q hs mSv) (x y wd hg wt : Int32) : wr_M l yX5_add wsX5_add ({ frames := 5, cells := 0, slots := 0, locals := 116 } : Room) D (MdW om xS xV xB xT xA xP xR cI thr mS mSv (nI q) mBf (nI b) mTl mAl mPl kBs kLf kAt kWl mRd kRm hsh) [(cI, .int)] [.ref om, .int x, .int y, .int wd, .int hg, .int wt] (fun v w9 => ∃ (t9 r9 : Int32) (A9 : AS), v = some (.int r9) ∧ spAdd ((n, P), (q, hs), (b, mBf)) x y wd hg wt = (t9, r9, A9) ∧ MdP om xS xV xB xT xA xP xR cI t9 A9 w9) := by
  have hn8 : n ≤ 8 := hA.1.1
  have hbk : bd_ok n P := hA.1.2.1
  have hq6 : q ≤ 6 := hA.2.1
  have hhs : ∀ j, j < q → (hs j).1 ≤ 8 := fun j hj => (hA.2.2.1 j hj).1
  have hb60 : b ≤ 60 := hA.2.2.2
  refine wr_mono (c_X5_add (P := P) l D (q := q) hq6 hn8 hQ hbk x y wd hg wt) ?_
  rintro v w9 (⟨h1, rfl, rfl⟩ | ⟨h1, rfl, S9, hS9, rfl⟩)
  · exact ⟨_, _, ((n, P), (q, hs), (b, mBf)), rfl, (by unfold spAdd; dsimp only; rw [if_neg h1]), _, _, _, _, _, _, _, _, _, _, _, _, hQ, hH, rfl⟩
  · exact ⟨_, _, (aPut (n + 1, mIns n P x y wd hg wt) ((n, P), (q, hs), (b, mBf))), rfl, (by unfold spAdd; dsimp only; rw [if_pos h1]), _, _, _, _, _, _, _, _, _, _, _, _, hS9, (mdH_save hq6 hn8 hhs hH hQ), rfl⟩
theorem s_X5_remove (l : Launch) (D : va_G) {om xS xV xB xT xA xP xR : Nat} {cI : ClassId} {thr kBs kLf kAt kWl kRm : Int32} {hsh : Int64} {mS mSv mBf mTl mAl mPl mRd : Nat → Int32} {n q b : Nat} {P : Nat → Nat → Int32} {hs : Nat → BS} (hA : aOK ((n, P), (q, hs), (b, mBf))) (hQ : mdS n P mS) (hH : mdH q hs mSv) (x : Int32) : wr_M l yX5_remove wsX5_remove ({ frames := 7, cells := 0, slots := 0, locals := 160 } : Room) D (MdW om xS xV xB xT xA xP xR cI thr mS mSv (nI q) mBf (nI b) mTl mAl mPl kBs kLf kAt kWl mRd kRm hsh) [(cI, .int)] [.ref om, .int x] (fun v w9 => ∃ (t9 r9 : Int32) (A9 : AS), v = some (.int r9) ∧ spRemove ((n, P), (q, hs), (b, mBf)) x = (t9, r9, A9) ∧ MdP om xS xV xB xT xA xP xR cI t9 A9 w9) := by
  have hn8 : n ≤ 8 := hA.1.1
  have hbk : bd_ok n P := hA.1.2.1
  have hq6 : q ≤ 6 := hA.2.1
  have hhs : ∀ j, j < q → (hs j).1 ≤ 8 := fun j hj => (hA.2.2.1 j hj).1
  have hb60 : b ≤ 60 := hA.2.2.2
  refine wr_mono (c_X5_remove (P := P) l D (q := q) hq6 hn8 hQ hbk x) ?_
  rintro v w9 (⟨h1, rfl, rfl⟩ | ⟨i, mm, hi, rfl, rfl, rfl, S9, hS9, rfl⟩)
  · exact ⟨_, _, ((n, P), (q, hs), (b, mBf)), rfl, (by unfold spRemove; dsimp only; rw [if_neg (bF h1)]), _, _, _, _, _, _, _, _, _, _, _, _, hQ, hH, rfl⟩
  · have hg : gHas (mm + 1) (nI i) = true := (gHas_iff hn8).mpr ⟨i, hi, rfl⟩
    exact ⟨_, _, (aPut (mm, gOut P i) ((mm + 1, P), (q, hs), (b, mBf))), rfl, (by unfold spRemove; dsimp only; rw [if_pos hg, ix_n (i := i) (by omega), show mm + 1 - 1 = mm by omega]), _, _, _, _, _, _, _, _, _, _, _, _, hS9, (mdH_save hq6 hn8 hhs hH hQ), rfl⟩
theorem s_X5_weigh (l : Launch) (D : va_G) {om xS xV xB xT xA xP xR : Nat} {cI : ClassId} {thr kBs kLf kAt kWl kRm : Int32} {hsh : Int64} {mS mSv mBf mTl mAl mPl mRd : Nat → Int32} {n q b : Nat} {P : Nat → Nat → Int32} {hs : Nat → BS} (hA : aOK ((n, P), (q, hs), (b, mBf))) (hQ : mdS n P mS) (hH : mdH q hs mSv) (x y : Int32) : wr_M l yX5_weigh wsX5_weigh ({ frames := 2, cells := 0, slots := 0, locals := 43 } : Room) D (MdW om xS xV xB xT xA xP xR cI thr mS mSv (nI q) mBf (nI b) mTl mAl mPl kBs kLf kAt kWl mRd kRm hsh) [(cI, .int)] [.ref om, .int x, .int y] (fun v w9 => ∃ (t9 r9 : Int32) (A9 : AS), v = some (.int r9) ∧ spWeigh ((n, P), (q, hs), (b, mBf)) x y = (t9, r9, A9) ∧ MdP om xS xV xB xT xA xP xR cI t9 A9 w9) := by
  have hn8 : n ≤ 8 := hA.1.1
  have hbk : bd_ok n P := hA.1.2.1
  have hq6 : q ≤ 6 := hA.2.1
  have hhs : ∀ j, j < q → (hs j).1 ≤ 8 := fun j hj => (hA.2.2.1 j hj).1
  have hb60 : b ≤ 60 := hA.2.2.2
  refine wr_mono (c_X5_weigh (P := P) l D (q := q) hq6 hn8 hQ hbk x y) ?_
  rintro v w9 (⟨h1, rfl, rfl⟩ | ⟨i, hi, rfl, (⟨h2, rfl, rfl⟩ | ⟨h2, rfl, S9, hS9, rfl⟩)⟩)
  · exact ⟨_, _, ((n, P), (q, hs), (b, mBf)), rfl, (by unfold spWeigh; dsimp only; rw [if_neg (bF h1)]), _, _, _, _, _, _, _, _, _, _, _, _, hQ, hH, rfl⟩
  · have hg : gHas n (nI i) = true := (gHas_iff hn8).mpr ⟨i, hi, rfl⟩
    exact ⟨_, _, ((n, P), (q, hs), (b, mBf)), rfl, (by unfold spWeigh; dsimp only; rw [if_pos hg, if_neg (bF h2)]), _, _, _, _, _, _, _, _, _, _, _, _, hQ, hH, rfl⟩
  · have hg : gHas n (nI i) = true := (gHas_iff hn8).mpr ⟨i, hi, rfl⟩
    exact ⟨_, _, (aPut (n, gSet P i 4 y) ((n, P), (q, hs), (b, mBf))), rfl, (by unfold spWeigh; dsimp only; rw [if_pos hg, if_pos h2, ix_n (i := i) (by omega)]), _, _, _, _, _, _, _, _, _, _, _, _, hS9, (mdH_save hq6 hn8 hhs hH hQ), rfl⟩
theorem s_X5_resize (l : Launch) (D : va_G) {om xS xV xB xT xA xP xR : Nat} {cI : ClassId} {thr kBs kLf kAt kWl kRm : Int32} {hsh : Int64} {mS mSv mBf mTl mAl mPl mRd : Nat → Int32} {n q b : Nat} {P : Nat → Nat → Int32} {hs : Nat → BS} (hA : aOK ((n, P), (q, hs), (b, mBf))) (hQ : mdS n P mS) (hH : mdH q hs mSv) (x y z : Int32) : wr_M l yX5_resize wsX5_resize ({ frames := 6, cells := 0, slots := 0, locals := 137 } : Room) D (MdW om xS xV xB xT xA xP xR cI thr mS mSv (nI q) mBf (nI b) mTl mAl mPl kBs kLf kAt kWl mRd kRm hsh) [(cI, .int)] [.ref om, .int x, .int y, .int z] (fun v w9 => ∃ (t9 r9 : Int32) (A9 : AS), v = some (.int r9) ∧ spResize ((n, P), (q, hs), (b, mBf)) x y z = (t9, r9, A9) ∧ MdP om xS xV xB xT xA xP xR cI t9 A9 w9) := by
  have hn8 : n ≤ 8 := hA.1.1
  have hbk : bd_ok n P := hA.1.2.1
  have hq6 : q ≤ 6 := hA.2.1
  have hhs : ∀ j, j < q → (hs j).1 ≤ 8 := fun j hj => (hA.2.2.1 j hj).1
  have hb60 : b ≤ 60 := hA.2.2.2
  refine wr_mono (c_X5_resize (P := P) l D (q := q) hq6 hn8 hQ hbk x y z) ?_
  rintro v w9 (⟨h1, rfl, rfl⟩ | ⟨i, hi, rfl, (⟨h2, rfl, rfl⟩ | ⟨h2, rfl, S9, hS9, rfl⟩)⟩)
  · exact ⟨_, _, ((n, P), (q, hs), (b, mBf)), rfl, (by unfold spResize; dsimp only; rw [if_neg (bF h1)]), _, _, _, _, _, _, _, _, _, _, _, _, hQ, hH, rfl⟩
  · have hg : gHas n (nI i) = true := (gHas_iff hn8).mpr ⟨i, hi, rfl⟩
    exact ⟨_, _, ((n, P), (q, hs), (b, mBf)), rfl, (by unfold spResize; dsimp only; rw [if_pos hg, if_neg (bF h2)]), _, _, _, _, _, _, _, _, _, _, _, _, hQ, hH, rfl⟩
  · have hg : gHas n (nI i) = true := (gHas_iff hn8).mpr ⟨i, hi, rfl⟩
    exact ⟨_, _, (aPut (n, gSet (gSet (gSet P i 2 y) i 3 z) i 5 (-1)) ((n, P), (q, hs), (b, mBf))), rfl, (by unfold spResize; dsimp only; rw [if_pos hg, if_pos h2, ix_n (i := i) (by omega)]), _, _, _, _, _, _, _, _, _, _, _, _, hS9, (mdH_save hq6 hn8 hhs hH hQ), rfl⟩
theorem s_X5_place (l : Launch) (D : va_G) {om xS xV xB xT xA xP xR : Nat} {cI : ClassId} {thr kBs kLf kAt kWl kRm : Int32} {hsh : Int64} {mS mSv mBf mTl mAl mPl mRd : Nat → Int32} {n q b : Nat} {P : Nat → Nat → Int32} {hs : Nat → BS} (hA : aOK ((n, P), (q, hs), (b, mBf))) (hQ : mdS n P mS) (hH : mdH q hs mSv) (x y : Int32) : wr_M l yX5_place wsX5_place ({ frames := 6, cells := 0, slots := 0, locals := 138 } : Room) D (MdW om xS xV xB xT xA xP xR cI thr mS mSv (nI q) mBf (nI b) mTl mAl mPl kBs kLf kAt kWl mRd kRm hsh) [(cI, .int)] [.ref om, .int x, .int y] (fun v w9 => ∃ (t9 r9 : Int32) (A9 : AS), v = some (.int r9) ∧ spPlace ((n, P), (q, hs), (b, mBf)) x y = (t9, r9, A9) ∧ MdP om xS xV xB xT xA xP xR cI t9 A9 w9) := by
  have hn8 : n ≤ 8 := hA.1.1
  have hbk : bd_ok n P := hA.1.2.1
  have hq6 : q ≤ 6 := hA.2.1
  have hhs : ∀ j, j < q → (hs j).1 ≤ 8 := fun j hj => (hA.2.2.1 j hj).1
  have hb60 : b ≤ 60 := hA.2.2.2
  refine wr_mono (c_X5_place (P := P) l D (q := q) hq6 hn8 hQ hbk x y) ?_
  rintro v w9 (⟨h1, rfl, rfl⟩ | ⟨i, hi, rfl, (⟨h2, rfl, rfl⟩ | ⟨h2, (⟨h3, rfl, rfl⟩ | ⟨h3, rfl, S9, hS9, rfl⟩)⟩)⟩)
  · exact ⟨_, _, ((n, P), (q, hs), (b, mBf)), rfl, (by unfold spPlace; dsimp only; rw [if_neg (bF h1)]), _, _, _, _, _, _, _, _, _, _, _, _, hQ, hH, rfl⟩
  · have hg : gHas n (nI i) = true := (gHas_iff hn8).mpr ⟨i, hi, rfl⟩
    exact ⟨_, _, ((n, P), (q, hs), (b, mBf)), rfl, (by unfold spPlace; dsimp only; rw [if_pos hg, if_neg (bF h2)]), _, _, _, _, _, _, _, _, _, _, _, _, hQ, hH, rfl⟩
  · have hg : gHas n (nI i) = true := (gHas_iff hn8).mpr ⟨i, hi, rfl⟩
    exact ⟨_, _, ((n, P), (q, hs), (b, mBf)), rfl, (by unfold spPlace; dsimp only; rw [if_pos hg, if_pos h2, ix_n (i := i) (by omega), if_neg (bF h3)]), _, _, _, _, _, _, _, _, _, _, _, _, hQ, hH, rfl⟩
  · have hg : gHas n (nI i) = true := (gHas_iff hn8).mpr ⟨i, hi, rfl⟩
    exact ⟨_, _, (aPut (n, gSet P i 5 y) ((n, P), (q, hs), (b, mBf))), rfl, (by unfold spPlace; dsimp only; rw [if_pos hg, if_pos h2, ix_n (i := i) (by omega), if_pos h3]), _, _, _, _, _, _, _, _, _, _, _, _, hS9, (mdH_save hq6 hn8 hhs hH hQ), rfl⟩
theorem s_X5_drop (l : Launch) (D : va_G) {om xS xV xB xT xA xP xR : Nat} {cI : ClassId} {thr kBs kLf kAt kWl kRm : Int32} {hsh : Int64} {mS mSv mBf mTl mAl mPl mRd : Nat → Int32} {n q b : Nat} {P : Nat → Nat → Int32} {hs : Nat → BS} (hA : aOK ((n, P), (q, hs), (b, mBf))) (hQ : mdS n P mS) (hH : mdH q hs mSv) (x : Int32) : wr_M l yX5_drop wsX5_drop ({ frames := 2, cells := 0, slots := 0, locals := 43 } : Room) D (MdW om xS xV xB xT xA xP xR cI thr mS mSv (nI q) mBf (nI b) mTl mAl mPl kBs kLf kAt kWl mRd kRm hsh) [(cI, .int)] [.ref om, .int x] (fun v w9 => ∃ (t9 r9 : Int32) (A9 : AS), v = some (.int r9) ∧ spDrop ((n, P), (q, hs), (b, mBf)) x = (t9, r9, A9) ∧ MdP om xS xV xB xT xA xP xR cI t9 A9 w9) := by
  have hn8 : n ≤ 8 := hA.1.1
  have hbk : bd_ok n P := hA.1.2.1
  have hq6 : q ≤ 6 := hA.2.1
  have hhs : ∀ j, j < q → (hs j).1 ≤ 8 := fun j hj => (hA.2.2.1 j hj).1
  have hb60 : b ≤ 60 := hA.2.2.2
  refine wr_mono (c_X5_drop (P := P) l D (q := q) hq6 hn8 hQ hbk x) ?_
  rintro v w9 (⟨h1, rfl, rfl⟩ | ⟨i, hi, rfl, rfl, S9, hS9, rfl⟩)
  · exact ⟨_, _, ((n, P), (q, hs), (b, mBf)), rfl, (by unfold spDrop; dsimp only; rw [if_neg (bF h1)]), _, _, _, _, _, _, _, _, _, _, _, _, hQ, hH, rfl⟩
  · have hg : gHas n (nI i) = true := (gHas_iff hn8).mpr ⟨i, hi, rfl⟩
    exact ⟨_, _, (aPut (n, gSet P i 5 (-1)) ((n, P), (q, hs), (b, mBf))), rfl, (by unfold spDrop; dsimp only; rw [if_pos hg, ix_n (i := i) (by omega)]), _, _, _, _, _, _, _, _, _, _, _, _, hS9, (mdH_save hq6 hn8 hhs hH hQ), rfl⟩
theorem s_X5_solve (l : Launch) (D : va_G) {om xS xV xB xT xA xP xR : Nat} {cI : ClassId} {thr kBs kLf kAt kWl kRm : Int32} {hsh : Int64} {mS mSv mBf mTl mAl mPl mRd : Nat → Int32} {n q b : Nat} {P : Nat → Nat → Int32} {hs : Nat → BS} (hA : aOK ((n, P), (q, hs), (b, mBf))) (hQ : mdS n P mS) (hH : mdH q hs mSv) : wr_M l yX5_solve wsX5_solve ({ frames := 7, cells := 0, slots := 0, locals := 160 } : Room) D (MdW om xS xV xB xT xA xP xR cI thr mS mSv (nI q) mBf (nI b) mTl mAl mPl kBs kLf kAt kWl mRd kRm hsh) [(cI, .int)] [.ref om] (fun v w9 => ∃ (t9 r9 : Int32) (A9 : AS), v = some (.int r9) ∧ spSolve ((n, P), (q, hs), (b, mBf)) = (t9, r9, A9) ∧ MdP om xS xV xB xT xA xP xR cI t9 A9 w9) := by
  have hn8 : n ≤ 8 := hA.1.1
  have hbk : bd_ok n P := hA.1.2.1
  have hq6 : q ≤ 6 := hA.2.1
  have hhs : ∀ j, j < q → (hs j).1 ≤ 8 := fun j hj => (hA.2.2.1 j hj).1
  have hb60 : b ≤ 60 := hA.2.2.2
  refine wr_mono (c_X5_solve (P := P) l D (q := q) hq6 hn8 hQ hbk) ?_
  rintro v w9 ⟨rfl, al9, tl9, S9, hS9, rfl⟩
  have hS8 := mLy_pl hS9 (fun i hi => best_pl hn8 hbk (-1) mPl hi)
  exact ⟨_, _, (aPut (n, mLy P (mHv n P (-1) (fun _ => 0)).2) ((n, P), (q, hs), (b, mBf))), rfl, (by rw [hvW_eq]; rfl), _, _, _, _, _, _, _, _, _, _, _, _, hS8, (mdH_save hq6 hn8 hhs hH hQ), rfl⟩
theorem s_X5_push (l : Launch) (D : va_G) {om xS xV xB xT xA xP xR : Nat} {cI : ClassId} {thr kBs kLf kAt kWl kRm : Int32} {hsh : Int64} {mS mSv mBf mTl mAl mPl mRd : Nat → Int32} {n q b : Nat} {P : Nat → Nat → Int32} {hs : Nat → BS} (hA : aOK ((n, P), (q, hs), (b, mBf))) (hQ : mdS n P mS) (hH : mdH q hs mSv) (x : Int32) : wr_M l yX5_push wsX5_push ({ frames := 7, cells := 0, slots := 0, locals := 160 } : Room) D (MdW om xS xV xB xT xA xP xR cI thr mS mSv (nI q) mBf (nI b) mTl mAl mPl kBs kLf kAt kWl mRd kRm hsh) [(cI, .int)] [.ref om, .int x] (fun v w9 => ∃ (t9 r9 : Int32) (A9 : AS), v = some (.int r9) ∧ spPush ((n, P), (q, hs), (b, mBf)) x = (t9, r9, A9) ∧ MdP om xS xV xB xT xA xP xR cI t9 A9 w9) := by
  have hn8 : n ≤ 8 := hA.1.1
  have hbk : bd_ok n P := hA.1.2.1
  have hq6 : q ≤ 6 := hA.2.1
  have hhs : ∀ j, j < q → (hs j).1 ≤ 8 := fun j hj => (hA.2.2.1 j hj).1
  have hb60 : b ≤ 60 := hA.2.2.2
  refine wr_mono (c_X5_push (P := P) l D (q := q) hq6 hn8 hQ hbk x) ?_
  rintro v w9 (⟨h1, rfl, rfl⟩ | ⟨i, hi, rfl, (⟨h2, rfl, al9, tl9, lf9, bs9, pl9, rfl⟩ | ⟨h2, rfl, al9, tl9, lf9, bs9, pl9, S9, rfl, hS9, rfl⟩)⟩)
  · exact ⟨_, _, ((n, P), (q, hs), (b, mBf)), rfl, (by unfold spPush; dsimp only; rw [if_neg (bF h1)]), _, _, _, _, _, _, _, _, _, _, _, _, hQ, hH, rfl⟩
  · have hg : gHas n (nI i) = true := (gHas_iff hn8).mpr ⟨i, hi, rfl⟩
    rw [mMr_pl mPl (fun _ => 0)] at h2
    exact ⟨_, _, ((n, P), (q, hs), (b, mBf)), rfl, (by unfold spPush; dsimp only; rw [if_pos hg, ix_n (i := i) (by omega), if_pos h2]), _, _, _, _, _, _, _, _, _, _, _, _, hQ, hH, rfl⟩
  · have hg : gHas n (nI i) = true := (gHas_iff hn8).mpr ⟨i, hi, rfl⟩
    rw [mMr_pl mPl (fun _ => 0)] at h2
    obtain ⟨u, -, hu⟩ := mRm_plan hn8 hbk h2
    have hS8 := mLy_pl hS9 (fun j hj => (hu mPl j hj).trans (hu (fun _ => 0) j hj).symm)
    exact ⟨_, _, (aPut (n, mLy P (mRm n P i (fun _ => 0)).2) ((n, P), (q, hs), (b, mBf))), rfl, (by rw [mMr_pl mPl (fun _ => 0)]; unfold spPush; dsimp only; rw [if_pos hg, ix_n (i := i) (by omega), if_neg h2]), _, _, _, _, _, _, _, _, _, _, _, _, hS8, (mdH_save hq6 hn8 hhs hH hQ), rfl⟩
theorem s_X5_mirror (l : Launch) (D : va_G) {om xS xV xB xT xA xP xR : Nat} {cI : ClassId} {thr kBs kLf kAt kWl kRm : Int32} {hsh : Int64} {mS mSv mBf mTl mAl mPl mRd : Nat → Int32} {n q b : Nat} {P : Nat → Nat → Int32} {hs : Nat → BS} (hA : aOK ((n, P), (q, hs), (b, mBf))) (hQ : mdS n P mS) (hH : mdH q hs mSv) : wr_M l yX5_mirror wsX5_mirror ({ frames := 3, cells := 0, slots := 0, locals := 65 } : Room) D (MdW om xS xV xB xT xA xP xR cI thr mS mSv (nI q) mBf (nI b) mTl mAl mPl kBs kLf kAt kWl mRd kRm hsh) [(cI, .int)] [.ref om] (fun v w9 => ∃ (t9 r9 : Int32) (A9 : AS), v = some (.int r9) ∧ spMirror ((n, P), (q, hs), (b, mBf)) = (t9, r9, A9) ∧ MdP om xS xV xB xT xA xP xR cI t9 A9 w9) := by
  have hn8 : n ≤ 8 := hA.1.1
  have hbk : bd_ok n P := hA.1.2.1
  have hq6 : q ≤ 6 := hA.2.1
  have hhs : ∀ j, j < q → (hs j).1 ≤ 8 := fun j hj => (hA.2.2.1 j hj).1
  have hb60 : b ≤ 60 := hA.2.2.2
  refine wr_mono (c_X5_mirror (P := P) l D (q := q) hq6 hn8 hQ hbk) ?_
  rintro v w9 ⟨rfl, S9, hS9, rfl⟩
  exact ⟨_, _, (aPut (n, gFlp P) ((n, P), (q, hs), (b, mBf))), rfl, rfl, _, _, _, _, _, _, _, _, _, _, _, _, hS9, (mdH_save hq6 hn8 hhs hH hQ), rfl⟩
theorem s_X5_append (l : Launch) (D : va_G) {om xS xV xB xT xA xP xR : Nat} {cI : ClassId} {thr kBs kLf kAt kWl kRm : Int32} {hsh : Int64} {mS mSv mBf mTl mAl mPl mRd : Nat → Int32} {n q b : Nat} {P : Nat → Nat → Int32} {hs : Nat → BS} (hA : aOK ((n, P), (q, hs), (b, mBf))) (hQ : mdS n P mS) (hH : mdH q hs mSv) (x : Int32) : wr_M l yX5_append wsX5_append ({ frames := 1, cells := 0, slots := 0, locals := 22 } : Room) D (MdW om xS xV xB xT xA xP xR cI thr mS mSv (nI q) mBf (nI b) mTl mAl mPl kBs kLf kAt kWl mRd kRm hsh) [(cI, .int)] [.ref om, .int x] (fun v w9 => ∃ (t9 r9 : Int32) (A9 : AS), v = some (.int r9) ∧ spAppend ((n, P), (q, hs), (b, mBf)) x = (t9, r9, A9) ∧ MdP om xS xV xB xT xA xP xR cI t9 A9 w9) := by
  have hn8 : n ≤ 8 := hA.1.1
  have hbk : bd_ok n P := hA.1.2.1
  have hq6 : q ≤ 6 := hA.2.1
  have hhs : ∀ j, j < q → (hs j).1 ≤ 8 := fun j hj => (hA.2.2.1 j hj).1
  have hb60 : b ≤ 60 := hA.2.2.2
  refine wr_mono (c_X5_append (P := P) l D (q := q) hq6 hn8 hQ hbk hb60 x) ?_
  rintro v w9 (⟨h1, rfl, rfl⟩ | ⟨h1, h2, rfl, rfl⟩ | ⟨h1, h2, rfl, rfl⟩)
  · exact ⟨_, _, ((n, P), (q, hs), (b, mBf)), rfl, (by unfold spAppend; dsimp only; rw [if_neg (bF h1)]), _, _, _, _, _, _, _, _, _, _, _, _, hQ, hH, rfl⟩
  · exact ⟨_, _, ((n, P), (q, hs), (b, mBf)), rfl, (by unfold spAppend; dsimp only; rw [if_pos h1, if_pos h2]), _, _, _, _, _, _, _, _, _, _, _, _, hQ, hH, rfl⟩
  · exact ⟨_, _, ((n, P), (q, hs), (b + 1, upd mBf b x)), rfl, (by unfold spAppend; dsimp only; rw [if_pos h1, if_neg (show ¬ b = 60 by omega)]), _, _, _, _, _, _, _, _, _, _, _, _, hQ, hH, rfl⟩
theorem s_X5_clearBuffer (l : Launch) (D : va_G) {om xS xV xB xT xA xP xR : Nat} {cI : ClassId} {thr kBs kLf kAt kWl kRm : Int32} {hsh : Int64} {mS mSv mBf mTl mAl mPl mRd : Nat → Int32} {n q b : Nat} {P : Nat → Nat → Int32} {hs : Nat → BS} (hA : aOK ((n, P), (q, hs), (b, mBf))) (hQ : mdS n P mS) (hH : mdH q hs mSv) : wr_M l yX5_clearBuffer wsX5_clearBuffer ({ frames := 0, cells := 0, slots := 0, locals := 0 } : Room) D (MdW om xS xV xB xT xA xP xR cI thr mS mSv (nI q) mBf (nI b) mTl mAl mPl kBs kLf kAt kWl mRd kRm hsh) [(cI, .int)] [.ref om] (fun v w9 => ∃ (t9 r9 : Int32) (A9 : AS), v = some (.int r9) ∧ spClear ((n, P), (q, hs), (b, mBf)) = (t9, r9, A9) ∧ MdP om xS xV xB xT xA xP xR cI t9 A9 w9) := by
  have hn8 : n ≤ 8 := hA.1.1
  have hbk : bd_ok n P := hA.1.2.1
  have hq6 : q ≤ 6 := hA.2.1
  have hhs : ∀ j, j < q → (hs j).1 ≤ 8 := fun j hj => (hA.2.2.1 j hj).1
  have hb60 : b ≤ 60 := hA.2.2.2
  refine wr_mono (c_X5_clearBuffer (P := P) l D (q := q) hq6 hn8 hQ hbk hb60) ?_
  rintro v w9 ⟨rfl, rfl⟩
  exact ⟨_, _, ((n, P), (q, hs), (0, mBf)), rfl, rfl, _, _, _, _, _, _, _, _, _, _, _, _, hQ, hH, rfl⟩
theorem s_X5_firstError (l : Launch) (D : va_G) {om xS xV xB xT xA xP xR : Nat} {cI : ClassId} {thr kBs kLf kAt kWl kRm : Int32} {hsh : Int64} {mS mSv mBf mTl mAl mPl mRd : Nat → Int32} {n q b : Nat} {P : Nat → Nat → Int32} {hs : Nat → BS} (hA : aOK ((n, P), (q, hs), (b, mBf))) (hQ : mdS n P mS) (hH : mdH q hs mSv) (td : Nat → Int32) : wr_M l yX5_firstError wsX5_firstError ({ frames := 4, cells := 0, slots := 0, locals := 86 } : Room) D (MdW om xS xV xB xT xA xP xR cI thr mS mSv (nI q) mBf (nI b) mTl mAl mPl kBs kLf kAt kWl mRd kRm hsh) [(cI, .int)] [.ref om] (fun v w9 => ∃ (t9 r9 : Int32) (A9 : AS), v = some (.int r9) ∧ spFirst ((n, P), (q, hs), (b, mBf)) td = (t9, r9, A9) ∧ MdP om xS xV xB xT xA xP xR cI t9 A9 w9) := by
  have hn8 : n ≤ 8 := hA.1.1
  have hbk : bd_ok n P := hA.1.2.1
  have hq6 : q ≤ 6 := hA.2.1
  have hhs : ∀ j, j < q → (hs j).1 ≤ 8 := fun j hj => (hA.2.2.1 j hj).1
  have hb60 : b ≤ 60 := hA.2.2.2
  refine wr_mono (c_X5_firstError l D hb60 td) ?_
  rintro v w9 ⟨w8, a8, rm8, rd8, he, rfl, rfl⟩
  exact ⟨_, _, ((n, P), (q, hs), (b, mBf)), rfl, (by unfold spFirst; rw [he.1]), _, _, _, _, _, _, _, _, _, _, _, _, hQ, hH, rfl⟩
theorem s_X5_read (l : Launch) (D : va_G) {om xS xV xB xT xA xP xR : Nat} {cI : ClassId} {thr kBs kLf kAt kWl kRm : Int32} {hsh : Int64} {mS mSv mBf mTl mAl mPl mRd : Nat → Int32} {n q b : Nat} {P : Nat → Nat → Int32} {hs : Nat → BS} (hA : aOK ((n, P), (q, hs), (b, mBf))) (hQ : mdS n P mS) (hH : mdH q hs mSv) (td : Nat → Int32) : wr_M l yX5_read wsX5_read ({ frames := 5, cells := 0, slots := 0, locals := 116 } : Room) D (MdW om xS xV xB xT xA xP xR cI thr mS mSv (nI q) mBf (nI b) mTl mAl mPl kBs kLf kAt kWl mRd kRm hsh) [(cI, .int)] [.ref om] (fun v w9 => ∃ (t9 r9 : Int32) (A9 : AS), v = some (.int r9) ∧ spRead ((n, P), (q, hs), (b, mBf)) td = (t9, r9, A9) ∧ MdP om xS xV xB xT xA xP xR cI t9 A9 w9) := by
  have hn8 : n ≤ 8 := hA.1.1
  have hbk : bd_ok n P := hA.1.2.1
  have hq6 : q ≤ 6 := hA.2.1
  have hhs : ∀ j, j < q → (hs j).1 ≤ 8 := fun j hj => (hA.2.2.1 j hj).1
  have hb60 : b ≤ 60 := hA.2.2.2
  refine wr_mono (c_X5_read (P := P) l D hb60 td (q := q) hq6 hn8 hQ hbk) ?_
  rintro v w9 ⟨w8, a8, rm8, rd8, he, (⟨h1, rfl, rfl⟩ | ⟨h1, i9, n9, P9, S9, hI, h9, hb9, hS9, rfl, rfl⟩)⟩
  · exact ⟨_, _, ((n, P), (q, hs), (b, mBf)), rfl, (by unfold spRead; dsimp only; rw [if_neg (bF (he.2.1.symm.trans h1))]), _, _, _, _, _, _, _, _, _, _, _, _, hQ, hH, rfl⟩
  · have ht : ((tyR mBf b 0 (tyIn td)).2.1 && tyEnd (tyR mBf b 0 (tyIn td)).2.2) = true := he.2.1.symm.trans h1
    obtain ⟨e1, e2⟩ := he.2.2 h1
    subst e1
    rw [mIq_congr e2] at hI
    exact ⟨_, _, ((n9, P9), (svQ q + 1, svH q hs (n, P)), (0, mBf)), rfl, (by unfold spRead; dsimp only; rw [if_pos ht, hI]), _, _, _, _, _, _, _, _, _, _, _, _, hS9, (mdH_save hq6 hn8 hhs hH hQ), rfl⟩
theorem s_X5_undo (l : Launch) (D : va_G) {om xS xV xB xT xA xP xR : Nat} {cI : ClassId} {thr kBs kLf kAt kWl kRm : Int32} {hsh : Int64} {mS mSv mBf mTl mAl mPl mRd : Nat → Int32} {n q b : Nat} {P : Nat → Nat → Int32} {hs : Nat → BS} (hA : aOK ((n, P), (q, hs), (b, mBf))) (hQ : mdS n P mS) (hH : mdH q hs mSv) : wr_M l yX5_undo wsX5_undo ({ frames := 1, cells := 0, slots := 0, locals := 21 } : Room) D (MdW om xS xV xB xT xA xP xR cI thr mS mSv (nI q) mBf (nI b) mTl mAl mPl kBs kLf kAt kWl mRd kRm hsh) [(cI, .int)] [.ref om] (fun v w9 => ∃ (t9 r9 : Int32) (A9 : AS), v = some (.int r9) ∧ spUndo ((n, P), (q, hs), (b, mBf)) = (t9, r9, A9) ∧ MdP om xS xV xB xT xA xP xR cI t9 A9 w9) := by
  have hn8 : n ≤ 8 := hA.1.1
  have hbk : bd_ok n P := hA.1.2.1
  have hq6 : q ≤ 6 := hA.2.1
  have hhs : ∀ j, j < q → (hs j).1 ≤ 8 := fun j hj => (hA.2.2.1 j hj).1
  have hb60 : b ≤ 60 := hA.2.2.2
  refine wr_mono (c_X5_undo (P := P) l D (q := q) hq6 hn8 hQ hbk) ?_
  rintro v w9 (⟨h1, rfl, rfl⟩ | ⟨r, rfl, rfl, S9, hS9, rfl⟩)
  · exact ⟨_, _, ((n, P), (q, hs), (b, mBf)), rfl, (by unfold spUndo; dsimp only; rw [if_pos h1]), _, _, _, _, _, _, _, _, _, _, _, _, hQ, hH, rfl⟩
  · exact ⟨_, _, (hs r, (r, hs), (b, mBf)), rfl, (by unfold spUndo; dsimp only; rw [if_neg (Nat.succ_ne_zero r), show r + 1 - 1 = r by omega]), _, _, _, _, _, _, _, _, _, _, _, _, (mdS_49 (hhs r (by omega)) (hH r (by omega)) hS9), (fun j hj => hH j (by have hj9 : j < r := hj; omega)), rfl⟩
theorem mIn_08 {k : Nat} (h : k < 9) : mIn (nI k) 0 8 = true := by
  rcases (show k = 0 ∨ k = 1 ∨ k = 2 ∨ k = 3 ∨ k = 4 ∨ k = 5 ∨ k = 6 ∨ k = 7 ∨ k = 8 by omega) with rfl | rfl | rfl | rfl | rfl | rfl | rfl | rfl | rfl <;> decide
theorem s_X5_point (l : Launch) (D : va_G) {om xS xV xB xT xA xP xR : Nat} {cI : ClassId} {thr kBs kLf kAt kWl kRm : Int32} {hsh : Int64} {mS mSv mBf mTl mAl mPl mRd : Nat → Int32} {n q b : Nat} {P : Nat → Nat → Int32} {hs : Nat → BS} (hA : aOK ((n, P), (q, hs), (b, mBf))) (hQ : mdS n P mS) (hH : mdH q hs mSv) (x y : Int32) : wr_M l yX5_point wsX5_point ({ frames := 8, cells := 0, slots := 0, locals := 183 } : Room) D (MdW om xS xV xB xT xA xP xR cI thr mS mSv (nI q) mBf (nI b) mTl mAl mPl kBs kLf kAt kWl mRd kRm hsh) [(cI, .int)] [.ref om, .int x, .int y] (fun v w9 => ∃ (t9 r9 : Int32) (A9 : AS), v = some (.int r9) ∧ spPoint ((n, P), (q, hs), (b, mBf)) x y = (t9, r9, A9) ∧ MdP om xS xV xB xT xA xP xR cI t9 A9 w9) := by
  have hn8 : n ≤ 8 := hA.1.1
  have hbk : bd_ok n P := hA.1.2.1
  have hq6 : q ≤ 6 := hA.2.1
  have hhs : ∀ j, j < q → (hs j).1 ≤ 8 := fun j hj => (hA.2.2.1 j hj).1
  have hb60 : b ≤ 60 := hA.2.2.2
  refine wr_mono (c_X5_point (P := P) l D (q := q) hq6 hn8 hQ hbk x y) ?_
  rintro v w9 (⟨h1, rfl, rfl⟩ | ⟨i, hi, rfl, (⟨h2, rfl, rfl⟩ | ⟨k, hk, rfl, rfl, rfl⟩)⟩)
  · exact ⟨_, _, ((n, P), (q, hs), (b, mBf)), rfl, (by unfold spPoint; dsimp only; rw [if_neg (bF h1)]), _, _, _, _, _, _, _, _, _, _, _, _, hQ, hH, rfl⟩
  · have hg : gHas n (nI i) = true := (gHas_iff hn8).mpr ⟨i, hi, rfl⟩
    exact ⟨_, _, ((n, P), (q, hs), (b, mBf)), rfl, (by unfold spPoint; dsimp only; rw [if_pos hg, if_neg (bF h2)]), _, _, _, _, _, _, _, _, _, _, _, _, hQ, hH, rfl⟩
  · have hg : gHas n (nI i) = true := (gHas_iff hn8).mpr ⟨i, hi, rfl⟩
    exact ⟨_, _, ((n, P), (q, hs), (b, mBf)), rfl, (by unfold spPoint; dsimp only; rw [if_pos hg, if_pos (mIn_08 hk), ix_n (i := i) (by omega), ix_n (i := k) (by omega)]), _, _, _, _, _, _, _, _, _, _, _, _, hQ, hH, rfl⟩
theorem s_X5_clash (l : Launch) (D : va_G) {om xS xV xB xT xA xP xR : Nat} {cI : ClassId} {thr kBs kLf kAt kWl kRm : Int32} {hsh : Int64} {mS mSv mBf mTl mAl mPl mRd : Nat → Int32} {n q b : Nat} {P : Nat → Nat → Int32} {hs : Nat → BS} (hA : aOK ((n, P), (q, hs), (b, mBf))) (hQ : mdS n P mS) (hH : mdH q hs mSv) (x y u z : Int32) : wr_M l yX5_clash wsX5_clash ({ frames := 4, cells := 0, slots := 0, locals := 92 } : Room) D (MdW om xS xV xB xT xA xP xR cI thr mS mSv (nI q) mBf (nI b) mTl mAl mPl kBs kLf kAt kWl mRd kRm hsh) [(cI, .int)] [.ref om, .int x, .int y, .int u, .int z] (fun v w9 => ∃ (t9 r9 : Int32) (A9 : AS), v = some (.int r9) ∧ spClash ((n, P), (q, hs), (b, mBf)) x y u z = (t9, r9, A9) ∧ MdP om xS xV xB xT xA xP xR cI t9 A9 w9) := by
  have hn8 : n ≤ 8 := hA.1.1
  have hbk : bd_ok n P := hA.1.2.1
  have hq6 : q ≤ 6 := hA.2.1
  have hhs : ∀ j, j < q → (hs j).1 ≤ 8 := fun j hj => (hA.2.2.1 j hj).1
  have hb60 : b ≤ 60 := hA.2.2.2
  refine wr_mono (c_X5_clash (P := P) l D (q := q) hq6 hn8 hQ hbk x y u z) ?_
  rintro v w9 (⟨h1, rfl, rfl⟩ | ⟨h1, h2, rfl, rfl⟩ | ⟨i, j, hi, hj, rfl, rfl, h2, rfl, rfl⟩)
  · exact ⟨_, _, ((n, P), (q, hs), (b, mBf)), rfl, (by unfold spClash; dsimp only; rw [if_neg (bF h1)]), _, _, _, _, _, _, _, _, _, _, _, _, hQ, hH, rfl⟩
  · exact ⟨_, _, ((n, P), (q, hs), (b, mBf)), rfl, (by unfold spClash; dsimp only; rw [if_pos h1, if_neg (bF h2)]), _, _, _, _, _, _, _, _, _, _, _, _, hQ, hH, rfl⟩
  · have h1 : (gHas n (nI i) && gHas n (nI j)) = true := by rw [(gHas_iff hn8).mpr ⟨i, hi, rfl⟩, (gHas_iff hn8).mpr ⟨j, hj, rfl⟩]; rfl
    exact ⟨_, _, ((n, P), (q, hs), (b, mBf)), rfl, (by unfold spClash; dsimp only; rw [if_pos h1, if_pos h2, ix_n (i := i) (by omega), ix_n (i := j) (by omega)]), _, _, _, _, _, _, _, _, _, _, _, _, hQ, hH, rfl⟩
theorem s_X5_at (l : Launch) (D : va_G) {om xS xV xB xT xA xP xR : Nat} {cI : ClassId} {thr kBs kLf kAt kWl kRm : Int32} {hsh : Int64} {mS mSv mBf mTl mAl mPl mRd : Nat → Int32} {n q b : Nat} {P : Nat → Nat → Int32} {hs : Nat → BS} (hA : aOK ((n, P), (q, hs), (b, mBf))) (hQ : mdS n P mS) (hH : mdH q hs mSv) (x y : Int32) : wr_M l yX5_at wsX5_at ({ frames := 5, cells := 0, slots := 0, locals := 113 } : Room) D (MdW om xS xV xB xT xA xP xR cI thr mS mSv (nI q) mBf (nI b) mTl mAl mPl kBs kLf kAt kWl mRd kRm hsh) [(cI, .int)] [.ref om, .int x, .int y] (fun v w9 => ∃ (t9 r9 : Int32) (A9 : AS), v = some (.int r9) ∧ spAt ((n, P), (q, hs), (b, mBf)) x y = (t9, r9, A9) ∧ MdP om xS xV xB xT xA xP xR cI t9 A9 w9) := by
  have hn8 : n ≤ 8 := hA.1.1
  have hbk : bd_ok n P := hA.1.2.1
  have hq6 : q ≤ 6 := hA.2.1
  have hhs : ∀ j, j < q → (hs j).1 ≤ 8 := fun j hj => (hA.2.2.1 j hj).1
  have hb60 : b ≤ 60 := hA.2.2.2
  refine wr_mono (c_X5_at (P := P) l D (q := q) hq6 hn8 hQ hbk x y) ?_
  rintro v w9 (⟨h1, rfl, rfl⟩ | ⟨h1, rfl, rfl⟩)
  · exact ⟨_, _, ((n, P), (q, hs), (b, mBf)), rfl, (by unfold spAt; dsimp only; rw [if_neg (bF h1)]), _, _, _, _, _, _, _, _, _, _, _, _, hQ, hH, rfl⟩
  · exact ⟨_, _, ((n, P), (q, hs), (b, mBf)), rfl, (by unfold spAt; dsimp only; rw [if_pos h1]), _, _, _, _, _, _, _, _, _, _, _, _, hQ, hH, rfl⟩
theorem s_X5_count (l : Launch) (D : va_G) {om xS xV xB xT xA xP xR : Nat} {cI : ClassId} {thr kBs kLf kAt kWl kRm : Int32} {hsh : Int64} {mS mSv mBf mTl mAl mPl mRd : Nat → Int32} {n q b : Nat} {P : Nat → Nat → Int32} {hs : Nat → BS} (hA : aOK ((n, P), (q, hs), (b, mBf))) (hQ : mdS n P mS) (hH : mdH q hs mSv) (x : Int32) : wr_M l yX5_count wsX5_count ({ frames := 8, cells := 0, slots := 0, locals := 182 } : Room) D (MdW om xS xV xB xT xA xP xR cI thr mS mSv (nI q) mBf (nI b) mTl mAl mPl kBs kLf kAt kWl mRd kRm hsh) [(cI, .int)] [.ref om, .int x] (fun v w9 => ∃ (t9 r9 : Int32) (A9 : AS), v = some (.int r9) ∧ spCount ((n, P), (q, hs), (b, mBf)) x = (t9, r9, A9) ∧ MdP om xS xV xB xT xA xP xR cI t9 A9 w9) := by
  have hn8 : n ≤ 8 := hA.1.1
  have hbk : bd_ok n P := hA.1.2.1
  have hq6 : q ≤ 6 := hA.2.1
  have hhs : ∀ j, j < q → (hs j).1 ≤ 8 := fun j hj => (hA.2.2.1 j hj).1
  have hb60 : b ≤ 60 := hA.2.2.2
  refine wr_mono (c_X5_count (P := P) l D (q := q) hq6 hn8 hQ hbk x) ?_
  rintro v w9 (⟨h1, rfl, rfl⟩ | ⟨k, hk, rfl, rfl, rfl⟩)
  · exact ⟨_, _, ((n, P), (q, hs), (b, mBf)), rfl, (by unfold spCount; dsimp only; rw [if_neg (bF h1)]), _, _, _, _, _, _, _, _, _, _, _, _, hQ, hH, rfl⟩
  · exact ⟨_, _, ((n, P), (q, hs), (b, mBf)), rfl, (by unfold spCount; dsimp only; rw [if_pos (mIn_08 hk), ix_n (i := k) (by omega)]), _, _, _, _, _, _, _, _, _, _, _, _, hQ, hH, rfl⟩
theorem s_X5_best (l : Launch) (D : va_G) {om xS xV xB xT xA xP xR : Nat} {cI : ClassId} {thr kBs kLf kAt kWl kRm : Int32} {hsh : Int64} {mS mSv mBf mTl mAl mPl mRd : Nat → Int32} {n q b : Nat} {P : Nat → Nat → Int32} {hs : Nat → BS} (hA : aOK ((n, P), (q, hs), (b, mBf))) (hQ : mdS n P mS) (hH : mdH q hs mSv) (x : Int32) : wr_M l yX5_best wsX5_best ({ frames := 8, cells := 0, slots := 0, locals := 181 } : Room) D (MdW om xS xV xB xT xA xP xR cI thr mS mSv (nI q) mBf (nI b) mTl mAl mPl kBs kLf kAt kWl mRd kRm hsh) [(cI, .int)] [.ref om, .int x] (fun v w9 => ∃ (t9 r9 : Int32) (A9 : AS), v = some (.int r9) ∧ spBest ((n, P), (q, hs), (b, mBf)) x = (t9, r9, A9) ∧ MdP om xS xV xB xT xA xP xR cI t9 A9 w9) := by
  have hn8 : n ≤ 8 := hA.1.1
  have hbk : bd_ok n P := hA.1.2.1
  have hq6 : q ≤ 6 := hA.2.1
  have hhs : ∀ j, j < q → (hs j).1 ≤ 8 := fun j hj => (hA.2.2.1 j hj).1
  have hb60 : b ≤ 60 := hA.2.2.2
  refine wr_mono (c_X5_best (P := P) l D (q := q) hq6 hn8 hQ hbk x) ?_
  rintro v w9 (⟨h1, rfl, rfl⟩ | ⟨i, hi, rfl, rfl, al9, tl9, rfl⟩)
  · exact ⟨_, _, ((n, P), (q, hs), (b, mBf)), rfl, (by unfold spBest; dsimp only; rw [if_neg (bF h1)]), _, _, _, _, _, _, _, _, _, _, _, _, hQ, hH, rfl⟩
  · have hg : gHas n (nI i) = true := (gHas_iff hn8).mpr ⟨i, hi, rfl⟩
    exact ⟨_, _, ((n, P), (q, hs), (b, mBf)), rfl, (by rw [best_pl hn8 hbk (-1) mPl hi]; unfold spBest; dsimp only; rw [if_pos hg, ix_n (i := i) (by omega)]; rfl), _, _, _, _, _, _, _, _, _, _, _, _, hQ, hH, rfl⟩
theorem s_X5_bestWeight (l : Launch) (D : va_G) {om xS xV xB xT xA xP xR : Nat} {cI : ClassId} {thr kBs kLf kAt kWl kRm : Int32} {hsh : Int64} {mS mSv mBf mTl mAl mPl mRd : Nat → Int32} {n q b : Nat} {P : Nat → Nat → Int32} {hs : Nat → BS} (hA : aOK ((n, P), (q, hs), (b, mBf))) (hQ : mdS n P mS) (hH : mdH q hs mSv) (x : Int32) : wr_M l yX5_bestWeight wsX5_bestWeight ({ frames := 7, cells := 0, slots := 0, locals := 160 } : Room) D (MdW om xS xV xB xT xA xP xR cI thr mS mSv (nI q) mBf (nI b) mTl mAl mPl kBs kLf kAt kWl mRd kRm hsh) [(cI, .int)] [.ref om, .int x] (fun v w9 => ∃ (t9 r9 : Int32) (A9 : AS), v = some (.int r9) ∧ spBestW ((n, P), (q, hs), (b, mBf)) x = (t9, r9, A9) ∧ MdP om xS xV xB xT xA xP xR cI t9 A9 w9) := by
  have hn8 : n ≤ 8 := hA.1.1
  have hbk : bd_ok n P := hA.1.2.1
  have hq6 : q ≤ 6 := hA.2.1
  have hhs : ∀ j, j < q → (hs j).1 ≤ 8 := fun j hj => (hA.2.2.1 j hj).1
  have hb60 : b ≤ 60 := hA.2.2.2
  refine wr_mono (c_X5_bestWeight (P := P) l D (q := q) hq6 hn8 hQ hbk x) ?_
  rintro v w9 (⟨h0, h1, rfl, rfl⟩ | ⟨h1, rfl, al9, tl9, rfl⟩)
  · exact ⟨_, _, ((n, P), (q, hs), (b, mBf)), rfl, (by unfold spBestW; dsimp only; rw [if_neg (fun q9 => q9.elim h0 (bF h1))]), _, _, _, _, _, _, _, _, _, _, _, _, hQ, hH, rfl⟩
  · exact ⟨_, _, ((n, P), (q, hs), (b, mBf)), rfl, (by rw [hvW_eq]; unfold spBestW; dsimp only; rw [if_pos h1]), _, _, _, _, _, _, _, _, _, _, _, _, hQ, hH, rfl⟩
theorem s_X5_ifPushed (l : Launch) (D : va_G) {om xS xV xB xT xA xP xR : Nat} {cI : ClassId} {thr kBs kLf kAt kWl kRm : Int32} {hsh : Int64} {mS mSv mBf mTl mAl mPl mRd : Nat → Int32} {n q b : Nat} {P : Nat → Nat → Int32} {hs : Nat → BS} (hA : aOK ((n, P), (q, hs), (b, mBf))) (hQ : mdS n P mS) (hH : mdH q hs mSv) (x : Int32) : wr_M l yX5_ifPushed wsX5_ifPushed ({ frames := 7, cells := 0, slots := 0, locals := 160 } : Room) D (MdW om xS xV xB xT xA xP xR cI thr mS mSv (nI q) mBf (nI b) mTl mAl mPl kBs kLf kAt kWl mRd kRm hsh) [(cI, .int)] [.ref om, .int x] (fun v w9 => ∃ (t9 r9 : Int32) (A9 : AS), v = some (.int r9) ∧ spIfP ((n, P), (q, hs), (b, mBf)) x = (t9, r9, A9) ∧ MdP om xS xV xB xT xA xP xR cI t9 A9 w9) := by
  have hn8 : n ≤ 8 := hA.1.1
  have hbk : bd_ok n P := hA.1.2.1
  have hq6 : q ≤ 6 := hA.2.1
  have hhs : ∀ j, j < q → (hs j).1 ≤ 8 := fun j hj => (hA.2.2.1 j hj).1
  have hb60 : b ≤ 60 := hA.2.2.2
  refine wr_mono (c_X5_ifPushed (P := P) l D (q := q) hq6 hn8 hQ hbk x) ?_
  rintro v w9 (⟨h1, rfl, rfl⟩ | ⟨i, hi, rfl, rfl, al9, tl9, lf9, bs9, pl9, rfl⟩)
  · exact ⟨_, _, ((n, P), (q, hs), (b, mBf)), rfl, (by unfold spIfP; dsimp only; rw [if_neg (bF h1)]), _, _, _, _, _, _, _, _, _, _, _, _, hQ, hH, rfl⟩
  · have hg : gHas n (nI i) = true := (gHas_iff hn8).mpr ⟨i, hi, rfl⟩
    exact ⟨_, _, ((n, P), (q, hs), (b, mBf)), rfl, (by rw [mMr_pl mPl (fun _ => 0)]; unfold spIfP; dsimp only; rw [if_pos hg, ix_n (i := i) (by omega)]), _, _, _, _, _, _, _, _, _, _, _, _, hQ, hH, rfl⟩
theorem s_X5_fullPlans (l : Launch) (D : va_G) {om xS xV xB xT xA xP xR : Nat} {cI : ClassId} {thr kBs kLf kAt kWl kRm : Int32} {hsh : Int64} {mS mSv mBf mTl mAl mPl mRd : Nat → Int32} {n q b : Nat} {P : Nat → Nat → Int32} {hs : Nat → BS} (hA : aOK ((n, P), (q, hs), (b, mBf))) (hQ : mdS n P mS) (hH : mdH q hs mSv) : wr_M l yX5_fullPlans wsX5_fullPlans ({ frames := 7, cells := 0, slots := 0, locals := 159 } : Room) D (MdW om xS xV xB xT xA xP xR cI thr mS mSv (nI q) mBf (nI b) mTl mAl mPl kBs kLf kAt kWl mRd kRm hsh) [(cI, .int)] [.ref om] (fun v w9 => ∃ (t9 r9 : Int32) (A9 : AS), v = some (.int r9) ∧ spFull ((n, P), (q, hs), (b, mBf)) = (t9, r9, A9) ∧ MdP om xS xV xB xT xA xP xR cI t9 A9 w9) := by
  have hn8 : n ≤ 8 := hA.1.1
  have hbk : bd_ok n P := hA.1.2.1
  have hq6 : q ≤ 6 := hA.2.1
  have hhs : ∀ j, j < q → (hs j).1 ≤ 8 := fun j hj => (hA.2.2.1 j hj).1
  have hb60 : b ≤ 60 := hA.2.2.2
  refine wr_mono (c_X5_fullPlans (P := P) l D (q := q) hq6 hn8 hQ hbk) ?_
  rintro v w9 ⟨rfl, al9, tl9, rfl⟩
  exact ⟨_, _, ((n, P), (q, hs), (b, mBf)), rfl, (by rw [mFu_pl mPl (fun _ => 0)]; rfl), _, _, _, _, _, _, _, _, _, _, _, _, hQ, hH, rfl⟩
theorem s_X5_dearest (l : Launch) (D : va_G) {om xS xV xB xT xA xP xR : Nat} {cI : ClassId} {thr kBs kLf kAt kWl kRm : Int32} {hsh : Int64} {mS mSv mBf mTl mAl mPl mRd : Nat → Int32} {n q b : Nat} {P : Nat → Nat → Int32} {hs : Nat → BS} (hA : aOK ((n, P), (q, hs), (b, mBf))) (hQ : mdS n P mS) (hH : mdH q hs mSv) : wr_M l yX5_dearest wsX5_dearest ({ frames := 8, cells := 0, slots := 0, locals := 184 } : Room) D (MdW om xS xV xB xT xA xP xR cI thr mS mSv (nI q) mBf (nI b) mTl mAl mPl kBs kLf kAt kWl mRd kRm hsh) [(cI, .int)] [.ref om] (fun v w9 => ∃ (t9 r9 : Int32) (A9 : AS), v = some (.int r9) ∧ spDear ((n, P), (q, hs), (b, mBf)) = (t9, r9, A9) ∧ MdP om xS xV xB xT xA xP xR cI t9 A9 w9) := by
  have hn8 : n ≤ 8 := hA.1.1
  have hbk : bd_ok n P := hA.1.2.1
  have hq6 : q ≤ 6 := hA.2.1
  have hhs : ∀ j, j < q → (hs j).1 ≤ 8 := fun j hj => (hA.2.2.1 j hj).1
  have hb60 : b ≤ 60 := hA.2.2.2
  refine wr_mono (c_X5_dearest (P := P) l D (q := q) hq6 hn8 hQ hbk) ?_
  rintro v w9 ⟨rfl, al9, tl9, lf9, bs9, pl9, rfl⟩
  exact ⟨_, _, ((n, P), (q, hs), (b, mBf)), rfl, rfl, _, _, _, _, _, _, _, _, _, _, _, _, hQ, hH, rfl⟩
theorem s_X5_standingShare (l : Launch) (D : va_G) {om xS xV xB xT xA xP xR : Nat} {cI : ClassId} {thr kBs kLf kAt kWl kRm : Int32} {hsh : Int64} {mS mSv mBf mTl mAl mPl mRd : Nat → Int32} {n q b : Nat} {P : Nat → Nat → Int32} {hs : Nat → BS} (hA : aOK ((n, P), (q, hs), (b, mBf))) (hQ : mdS n P mS) (hH : mdH q hs mSv) : wr_M l yX5_standingShare wsX5_standingShare ({ frames := 4, cells := 0, slots := 0, locals := 88 } : Room) D (MdW om xS xV xB xT xA xP xR cI thr mS mSv (nI q) mBf (nI b) mTl mAl mPl kBs kLf kAt kWl mRd kRm hsh) [(cI, .int)] [.ref om] (fun v w9 => v = some (.double (gShare n P)) ∧ MdP om xS xV xB xT xA xP xR cI 0 ((n, P), (q, hs), (b, mBf)) w9) := by
  have hn8 : n ≤ 8 := hA.1.1
  have hbk : bd_ok n P := hA.1.2.1
  have hq6 : q ≤ 6 := hA.2.1
  have hhs : ∀ j, j < q → (hs j).1 ≤ 8 := fun j hj => (hA.2.2.1 j hj).1
  have hb60 : b ≤ 60 := hA.2.2.2
  refine wr_mono (c_X5_standingShare (P := P) l D hn8 hQ hbk) ?_
  rintro v w9 ⟨rfl, rfl⟩
  exact ⟨rfl, _, _, _, _, _, _, _, _, _, _, _, _, hQ, hH, rfl⟩
theorem s_X5_digest (l : Launch) (D : va_G) {om xS xV xB xT xA xP xR : Nat} {cI : ClassId} {thr kBs kLf kAt kWl kRm : Int32} {hsh : Int64} {mS mSv mBf mTl mAl mPl mRd : Nat → Int32} {n q b : Nat} {P : Nat → Nat → Int32} {hs : Nat → BS} (hA : aOK ((n, P), (q, hs), (b, mBf))) (hQ : mdS n P mS) (hH : mdH q hs mSv) : wr_M l yX5_digest wsX5_digest ({ frames := 8, cells := 0, slots := 0, locals := 184 } : Room) D (MdW om xS xV xB xT xA xP xR cI thr mS mSv (nI q) mBf (nI b) mTl mAl mPl kBs kLf kAt kWl mRd kRm hsh) [(cI, .int)] [.ref om] (fun v w9 => v = some (.long (gDig ((n, P), (q, hs), (b, mBf)))) ∧ MdP om xS xV xB xT xA xP xR cI 0 ((n, P), (q, hs), (b, mBf)) w9) := by
  have hn8 : n ≤ 8 := hA.1.1
  have hbk : bd_ok n P := hA.1.2.1
  have hq6 : q ≤ 6 := hA.2.1
  have hhs : ∀ j, j < q → (hs j).1 ≤ 8 := fun j hj => (hA.2.2.1 j hj).1
  have hb60 : b ≤ 60 := hA.2.2.2
  refine wr_mono (c_X5_digest (P := P) l D (q := q) hq6 hn8 hQ hbk hb60 hs) ?_
  rintro v w9 ⟨rfl, al9, tl9, lf9, bs9, pl9, hsh9, rfl⟩
  exact ⟨rfl, _, _, _, _, _, _, _, _, _, _, _, _, hQ, hH, rfl⟩
