theorem best_pl {n : Nat} {P : Nat → Nat → Int32} (h8 : n ≤ 8) (hbk : bd_ok n P) (wo : Int32) (pl : Nat → Int32) {i : Nat} (hi : i < n) : (mHv n P wo pl).2 i = (mHv n P wo (fun _ => 0)).2 i := by
  obtain ⟨u, -, h⟩ := mHv_plan h8 hbk wo
  rw [h pl i hi, h (fun _ => 0) i hi]
theorem c_X5_heaviest2 (l : Launch) (D : va_G) {om xS xV xB xT xA xP xR : Nat} {cI : ClassId} {thr kLn kBs kLf kAt kWl kRm : Int32} {hsh : Int64} {mS mSv mBf mTl mAl mPl mRd : Nat → Int32} {n : Nat} {P : Nat → Nat → Int32} {q : Nat} (hq6 : q ≤ 6) (hn8 : n ≤ 8) (hQ : mdS n P mS) (hbk : bd_ok n P) (wo : Int32) : wr_M l yX5_heaviest wsX5_heaviest ({ frames := 6, cells := 0, slots := 0, locals := 138 } : Room) D (MdW om xS xV xB xT xA xP xR cI thr mS mSv (nI q) mBf kLn mTl mAl mPl kBs kLf kAt kWl mRd kRm hsh) [(cI, .int)] [.ref om, .int wo] (fun v w9 => v = some (.int (hvW n P wo)) ∧ ∃ (al9 tl9 : Nat → Int32) (lf9 bs9 : Int32) (pl9 : Nat → Int32), w9 = MdW om xS xV xB xT xA xP xR cI thr mS mSv (nI q) mBf kLn tl9 al9 pl9 bs9 lf9 kAt kWl mRd kRm hsh) := by
  refine wr_mono (c_X5_heaviest (P := P) l D (q := q) hq6 hn8 hQ hbk wo) ?_
  rintro v w9 ⟨rfl, al9, tl9, rfl⟩
  exact ⟨by rw [hvW_eq], _, _, _, _, _, rfl⟩
theorem c_X5_bestOf2 (l : Launch) (D : va_G) {om xS xV xB xT xA xP xR : Nat} {cI : ClassId} {thr kLn kBs kLf kAt kWl kRm : Int32} {hsh : Int64} {mS mSv mBf mTl mAl mPl mRd : Nat → Int32} {n : Nat} {P : Nat → Nat → Int32} {q : Nat} (hq6 : q ≤ 6) (hn8 : n ≤ 8) (hQ : mdS n P mS) (hbk : bd_ok n P) {i : Nat} (hi : i < n) : wr_M l yX5_bestOf wsX5_bestOf ({ frames := 7, cells := 0, slots := 0, locals := 160 } : Room) D (MdW om xS xV xB xT xA xP xR cI thr mS mSv (nI q) mBf kLn mTl mAl mPl kBs kLf kAt kWl mRd kRm hsh) [(cI, .int)] [.ref om, .int (nI i)] (fun v w9 => v = some (.int (lay ((mHv n P (-1) (fun _ => 0)).2 i))) ∧ ∃ (al9 tl9 : Nat → Int32) (lf9 bs9 : Int32) (pl9 : Nat → Int32), w9 = MdW om xS xV xB xT xA xP xR cI thr mS mSv (nI q) mBf kLn tl9 al9 pl9 bs9 lf9 kAt kWl mRd kRm hsh) := by
  refine wr_mono (c_X5_bestOf (P := P) l D (q := q) hq6 hn8 hQ hbk hi) ?_
  rintro v w9 ⟨rfl, al9, tl9, rfl⟩
  exact ⟨by rw [best_pl hn8 hbk (-1) mPl hi]; rfl, _, _, _, _, _, rfl⟩
theorem c_X5_makesRoom2 (l : Launch) (D : va_G) {om xS xV xB xT xA xP xR : Nat} {cI : ClassId} {thr kLn kBs kLf kAt kWl kRm : Int32} {hsh : Int64} {mS mSv mBf mTl mAl mPl mRd : Nat → Int32} {n : Nat} {P : Nat → Nat → Int32} {q : Nat} (hq6 : q ≤ 6) (hn8 : n ≤ 8) (hQ : mdS n P mS) (hbk : bd_ok n P) {i : Nat} (hi : i < n) : wr_M l yX5_makesRoom wsX5_makesRoom ({ frames := 6, cells := 0, slots := 0, locals := 138 } : Room) D (MdW om xS xV xB xT xA xP xR cI thr mS mSv (nI q) mBf kLn mTl mAl mPl kBs kLf kAt kWl mRd kRm hsh) [(cI, .int)] [.ref om, .int (nI i)] (fun v w9 => v = some (.int (mMr n P i (fun _ => 0))) ∧ ∃ (al9 tl9 : Nat → Int32) (lf9 bs9 : Int32) (pl9 : Nat → Int32), w9 = MdW om xS xV xB xT xA xP xR cI thr mS mSv (nI q) mBf kLn tl9 al9 pl9 bs9 lf9 kAt kWl mRd kRm hsh) := by
  refine wr_mono (c_X5_makesRoom (P := P) l D (q := q) hq6 hn8 hQ hbk hi) ?_
  rintro v w9 ⟨rfl, al9, tl9, lf9, bs9, pl9, -, rfl⟩
  exact ⟨by rw [mMr_pl mPl (fun _ => 0)], _, _, _, _, _, rfl⟩
theorem c_X5_fulls2 (l : Launch) (D : va_G) {om xS xV xB xT xA xP xR : Nat} {cI : ClassId} {thr kLn kBs kLf kAt kWl kRm : Int32} {hsh : Int64} {mS mSv mBf mTl mAl mPl mRd : Nat → Int32} {n : Nat} {P : Nat → Nat → Int32} {q : Nat} (hq6 : q ≤ 6) (hn8 : n ≤ 8) (hQ : mdS n P mS) (hbk : bd_ok n P) : wr_M l yX5_fulls wsX5_fulls ({ frames := 6, cells := 0, slots := 0, locals := 138 } : Room) D (MdW om xS xV xB xT xA xP xR cI thr mS mSv (nI q) mBf kLn mTl mAl mPl kBs kLf kAt kWl mRd kRm hsh) [(cI, .int)] [.ref om] (fun v w9 => v = some (.int ((mFu n P (fun _ => 0)).1)) ∧ ∃ (al9 tl9 : Nat → Int32) (lf9 bs9 : Int32) (pl9 : Nat → Int32), w9 = MdW om xS xV xB xT xA xP xR cI thr mS mSv (nI q) mBf kLn tl9 al9 pl9 bs9 lf9 kAt kWl mRd kRm hsh) := by
  refine wr_mono (c_X5_fulls (P := P) l D (q := q) hq6 hn8 hQ hbk) ?_
  rintro v w9 ⟨rfl, al9, tl9, rfl⟩
  exact ⟨by rw [mFu_pl mPl (fun _ => 0)], _, _, _, _, _, rfl⟩
theorem cmpv_eql : Op.cmpValue (some .eq) .l = 0 := by decide
set_option maxHeartbeats 4000000 in
set_option maxRecDepth 100000 in
theorem c_X5_share (l : Launch) (D : va_G) {om xS xV xB xT xA xP xR : Nat} {cI : ClassId} {thr kSm kLn kBs kLf kAt kWl kRm : Int32} {hsh : Int64} {mS mSv mBf mTl mAl mPl mRd : Nat → Int32} {n : Nat} {P : Nat → Nat → Int32} (hn8 : n ≤ 8) (hQ : mdS n P mS) (hbk : bd_ok n P) : wr_M l yX5_share wsX5_share ({ frames := 3, cells := 0, slots := 0, locals := 66 } : Room) D (MdW om xS xV xB xT xA xP xR cI thr mS mSv kSm mBf kLn mTl mAl mPl kBs kLf kAt kWl mRd kRm hsh) [(cI, .int)] [.ref om] (fun v w9 => v = some (.double (gShare n P)) ∧ w9 = MdW om xS xV xB xT xA xP xR cI thr mS mSv kSm mBf kLn mTl mAl mPl kBs kLf kAt kWl mRd kRm hsh) := by
  refine wr_of (cc := cX5_share) (maxL := 3) (ret := some .double) (by decide) rfl (Nat.le_of_ble_eq_true rfl) ?_
  intro p e s m below meth c hx hb hr hml hts hown hlocks hP hK hN hZ hD hS ls hl
  have hown : s.vm.findClass RX5 = some m.cls := hown
  have hl : lv_has ls 3 [(0, .ref om)] := hl
  suffices body : ∀ (H : Heap) (locs : List Loc), va_P D vwCl (MdW om xS xV xB xT xA xP xR cI thr mS mSv kSm mBf kLn mTl mAl mPl kBs kLf kAt kWl mRd kRm hsh) H → va_D (wr_in (MdW om xS xV xB xT xA xP xR cI thr mS mSv kSm mBf kLn mTl mAl mPl kBs kLf kAt kWl mRd kRm hsh)) (MdW om xS xV xB xT xA xP xR cI thr mS mSv kSm mBf kLn mTl mAl mPl kBs kLf kAt kWl mRd kRm hsh) → va_S (wr_in (MdW om xS xV xB xT xA xP xR cI thr mS mSv kSm mBf kLn mTl mAl mPl kBs kLf kAt kWl mRd kRm hsh)) s.heap H locs → wr_W p l e wsX5_share ({ frames := 3, cells := 0, slots := 0, locals := 66 } : Room) s m [.ref om] below meth c D (MdW om xS xV xB xT xA xP xR cI thr mS mSv kSm mBf kLn mTl mAl mPl kBs kLf kAt kWl mRd kRm hsh) (fun v w9 => v = some (.double (gShare n P)) ∧ w9 = MdW om xS xV xB xT xA xP xR cI thr mS mSv kSm mBf kLn mTl mAl mPl kBs kLf kAt kWl mRd kRm hsh) H locs (F0 m 0 ls []) from body _ _ hP hD hS
  clear hP hD hS
  intro H locs hP hD hS
  refine lv_aload_n hx hb dX5_share_0 rfl (lv_at hl 0 rfl) ?_
  refine lv_iconst (v := 1) hx hb dX5_share_1 (by decide) ?_
  have hmd : md_in (MdW om xS xV xB xT xA xP xR cI thr mS mSv kSm mBf kLn mTl mAl mPl kBs kLf kAt kWl mRd kRm hsh) [(cI, .int)] om n P := ⟨0, 1, 0, xS, cI, mS, _, rfl, rfl, rfl, rfl, hn8, hQ.1, hQ.2, hbk⟩
  refine rd_callV (As := [.int 1]) (rest := []) ⟨hx, hb, hml, hown, hts⟩ (c_X5_weightOf l D hmd true) (cwV 1 hts gX5_share_X5_weightOf rfl rfl rfl (by decide +kernel) ⟨by decide, by decide⟩) hK hN hP (q0 := 0) rfl rfl rfl hl.1 rfl (Nat.le_of_ble_eq_true rfl) ⟨by decide, by decide⟩ dX5_share_2 ?_
  refine lv_istore_n (lv' := [(1, .int (mW n P true)), (0, .ref om)]) hx hb dX5_share_5 rfl hl (by decide) rfl (fun ls hl => ?_)
  refine lv_iload_n hx hb dX5_share_6 rfl (lv_at hl 0 rfl) ?_
  refine lv_aload_n hx hb dX5_share_7 rfl (lv_at hl 1 rfl) ?_
  refine lv_iconst (v := 0) hx hb dX5_share_8 (by decide) ?_
  have hmd : md_in (MdW om xS xV xB xT xA xP xR cI thr mS mSv kSm mBf kLn mTl mAl mPl kBs kLf kAt kWl mRd kRm hsh) [(cI, .int)] om n P := ⟨0, 1, 0, xS, cI, mS, _, rfl, rfl, rfl, rfl, hn8, hQ.1, hQ.2, hbk⟩
  refine rd_callV (As := [.int 0]) (rest := [.int (mW n P true)]) ⟨hx, hb, hml, hown, hts⟩ (c_X5_weightOf l D hmd false) (cwV 1 hts gX5_share_X5_weightOf rfl rfl rfl (by decide +kernel) ⟨by decide, by decide⟩) hK hN hP (q0 := 0) rfl rfl rfl hl.1 rfl (Nat.le_of_ble_eq_true rfl) ⟨by decide, by decide⟩ dX5_share_9 ?_
  refine lv_iadd hx hb dX5_share_12 ?_
  refine lv_istore_n (lv' := [(2, .int ((mW n P true) + (mW n P false))), (1, .int (mW n P true)), (0, .ref om)]) hx hb dX5_share_13 rfl hl (by decide) rfl (fun ls hl => ?_)
  refine lv_iload_n hx hb dX5_share_14 rfl (lv_at hl 0 rfl) ?_
  refine lv_if_ne (tgt := 22) hx hb dX5_share_15 (by decide) (fun c_15 => ?_) (fun c_15 => ?_)
  · refine lv_iload_n hx hb dX5_share_22 rfl (lv_at hl 1 rfl) ?_
    refine lv_i2d hx hb dX5_share_23 ?_
    refine lv_iload_n hx hb dX5_share_24 rfl (lv_at hl 0 rfl) ?_
    refine lv_i2d hx hb dX5_share_25 ?_
    refine lv_ddiv hx hb dX5_share_26 (by have h9 := gShare_n hn8 hbk (by rw [gAW_mW]; exact c_15); rw [gSW_mW, gAW_mW] at h9; exact h9) ?_
    exact wr_dret hx hb hr hlocks hP hS rfl dX5_share_27 (by exact ⟨by unfold gShare; rw [gSW_mW, gAW_mW, if_neg c_15], rfl⟩)
  · refine lv_dconst1 hx hb dX5_share_18 ?_
    refine lv_goto (tgt := 27) hx hb dX5_share_19 (by decide) ?_
    exact wr_dret hx hb hr hlocks hP hS rfl dX5_share_27 (by exact ⟨by unfold gShare; rw [gSW_mW, gAW_mW, if_pos c_15], rfl⟩)
set_option maxHeartbeats 4000000 in
set_option maxRecDepth 100000 in
theorem c_X5_standingShare (l : Launch) (D : va_G) {om xS xV xB xT xA xP xR : Nat} {cI : ClassId} {thr kSm kLn kBs kLf kAt kWl kRm : Int32} {hsh : Int64} {mS mSv mBf mTl mAl mPl mRd : Nat → Int32} {n : Nat} {P : Nat → Nat → Int32} (hn8 : n ≤ 8) (hQ : mdS n P mS) (hbk : bd_ok n P) : wr_M l yX5_standingShare wsX5_standingShare ({ frames := 4, cells := 0, slots := 0, locals := 88 } : Room) D (MdW om xS xV xB xT xA xP xR cI thr mS mSv kSm mBf kLn mTl mAl mPl kBs kLf kAt kWl mRd kRm hsh) [(cI, .int)] [.ref om] (fun v w9 => v = some (.double (gShare n P)) ∧ w9 = MdW om xS xV xB xT xA xP xR cI 0 mS mSv kSm mBf kLn mTl mAl mPl kBs kLf kAt kWl mRd kRm hsh) := by
  refine wr_of (cc := cX5_standingShare) (maxL := 1) (ret := some .double) (by decide) rfl (Nat.le_of_ble_eq_true rfl) ?_
  intro p e s m below meth c hx hb hr hml hts hown hlocks hP hK hN hZ hD hS ls hl
  have hown : s.vm.findClass RX5 = some m.cls := hown
  have hl : lv_has ls 1 [(0, .ref om)] := hl
  have hinX5 : ∀ w ∈ u_ws RX5 TX5 16, w ∈ wsX5_standingShare := by decide +kernel
  have hw31 := hts (.fieldLink RX5 31 "CornerLabelsModel" "thrown" "I") (by decide +kernel)
  suffices body : ∀ (H : Heap) (locs : List Loc), va_P D vwCl (MdW om xS xV xB xT xA xP xR cI thr mS mSv kSm mBf kLn mTl mAl mPl kBs kLf kAt kWl mRd kRm hsh) H → va_D (wr_in (MdW om xS xV xB xT xA xP xR cI thr mS mSv kSm mBf kLn mTl mAl mPl kBs kLf kAt kWl mRd kRm hsh)) (MdW om xS xV xB xT xA xP xR cI thr mS mSv kSm mBf kLn mTl mAl mPl kBs kLf kAt kWl mRd kRm hsh) → va_S (wr_in (MdW om xS xV xB xT xA xP xR cI thr mS mSv kSm mBf kLn mTl mAl mPl kBs kLf kAt kWl mRd kRm hsh)) s.heap H locs → wr_W p l e wsX5_standingShare ({ frames := 4, cells := 0, slots := 0, locals := 88 } : Room) s m [.ref om] below meth c D (MdW om xS xV xB xT xA xP xR cI thr mS mSv kSm mBf kLn mTl mAl mPl kBs kLf kAt kWl mRd kRm hsh) (fun v w9 => v = some (.double (gShare n P)) ∧ w9 = MdW om xS xV xB xT xA xP xR cI 0 mS mSv kSm mBf kLn mTl mAl mPl kBs kLf kAt kWl mRd kRm hsh) H locs (F0 m 0 ls []) from body _ _ hP hD hS
  clear hP hD hS
  intro H locs hP hD hS
  refine lv_aload_n hx hb dX5_standingShare_0 rfl (lv_at hl 0 rfl) ?_
  refine lv_iconst (v := 0) hx hb dX5_standingShare_1 (by decide) ?_
  refine va_put (D := D) (ci := 5) (v := .int 0) (ty := .int) (C := RX5) (T := TX5) (N := 16) hx hb hts hinX5 tyX5 tyX5_ok nmX5 hown hK hP hD hS 0 rfl rfl 0 (by decide) hw31 (fun _ h9 => h9) rfl (by decide +kernel) rfl rfl (Nat.le_of_ble_eq_true rfl) dX5_standingShare_2 (fun H locs hP hD hS => ?_)
  have hP : va_P D vwCl (MdW om xS xV xB xT xA xP xR cI 0 mS mSv kSm mBf kLn mTl mAl mPl kBs kLf kAt kWl mRd kRm hsh) H := hP
  have hD : va_D (wr_in (MdW om xS xV xB xT xA xP xR cI thr mS mSv kSm mBf kLn mTl mAl mPl kBs kLf kAt kWl mRd kRm hsh)) (MdW om xS xV xB xT xA xP xR cI 0 mS mSv kSm mBf kLn mTl mAl mPl kBs kLf kAt kWl mRd kRm hsh) := hD
  refine lv_aload_n hx hb dX5_standingShare_5 rfl (lv_at hl 0 rfl) ?_
  refine wr_callV (As := []) (rest := []) ⟨hx, hb, hml, hown, hts⟩ (c_X5_share (P := P) l D hn8 hQ hbk) (cwV 0 hts gX5_standingShare_X5_share rfl rfl rfl (by decide +kernel) ⟨by decide, by decide⟩) hK hN hZ hP hD hS [0, 1, 2, 3, 4, 5, 6, 7] [0] rfl (by decide) rfl (q0 := 0) rfl rfl rfl hl.1 rfl (Nat.le_of_ble_eq_true rfl) ⟨by decide, by decide⟩ dX5_standingShare_6 (fun v9 w9 H locs hp9 hP hD hS => ?_)
  obtain ⟨rfl, rfl⟩ := hp9
  have hP : va_P D vwCl (MdW om xS xV xB xT xA xP xR cI 0 mS mSv kSm mBf kLn mTl mAl mPl kBs kLf kAt kWl mRd kRm hsh) H := hP
  have hD : va_D (wr_in (MdW om xS xV xB xT xA xP xR cI thr mS mSv kSm mBf kLn mTl mAl mPl kBs kLf kAt kWl mRd kRm hsh)) (MdW om xS xV xB xT xA xP xR cI 0 mS mSv kSm mBf kLn mTl mAl mPl kBs kLf kAt kWl mRd kRm hsh) := hD
  refine W.eq (g2 := F0 m 9 ls [.double (gShare n P)]) rfl ?_
  exact wr_dret hx hb hr hlocks hP hS rfl dX5_standingShare_9 (by exact ⟨rfl, rfl⟩)
set_option maxHeartbeats 4000000 in
set_option maxRecDepth 100000 in
theorem c_X5_hashes (l : Launch) (D : va_G) {om xS xV xB xT xA xP xR : Nat} {cI : ClassId} {thr kSm kLn kBs kLf kAt kWl kRm : Int32} {hsh : Int64} {mS mSv mBf mTl mAl mPl mRd : Nat → Int32} (a : Int64) : wr_M l yX5_hashes wsX5_hashes ({ frames := 0, cells := 0, slots := 0, locals := 0 } : Room) D (MdW om xS xV xB xT xA xP xR cI thr mS mSv kSm mBf kLn mTl mAl mPl kBs kLf kAt kWl mRd kRm hsh) [(cI, .int)] [.ref om, .long a] (fun v w9 => v = none ∧ w9 = MdW om xS xV xB xT xA xP xR cI thr mS mSv kSm mBf kLn mTl mAl mPl kBs kLf kAt kWl mRd kRm (gHx hsh a)) := by
  refine wr_of (cc := cX5_hashes) (maxL := 3) (ret := none) (by decide) rfl (Nat.le_of_ble_eq_true rfl) ?_
  intro p e s m below meth c hx hb hr hml hts hown hlocks hP hK hN hZ hD hS ls hl
  have hown : s.vm.findClass RX5 = some m.cls := hown
  have hl : lv_has ls 3 [(0, .ref om), (1, .long a)] := hl
  have hw229 := hts (.constantLong RX5 229 (31)) (by decide +kernel)
  have hinX5 : ∀ w ∈ u_ws RX5 TX5 16, w ∈ wsX5_hashes := by decide +kernel
  have hw231 := hts (.fieldLink RX5 231 "CornerLabelsModel" "hash" "J") (by decide +kernel)
  suffices body : ∀ (H : Heap) (locs : List Loc), va_P D vwCl (MdW om xS xV xB xT xA xP xR cI thr mS mSv kSm mBf kLn mTl mAl mPl kBs kLf kAt kWl mRd kRm hsh) H → va_D (wr_in (MdW om xS xV xB xT xA xP xR cI thr mS mSv kSm mBf kLn mTl mAl mPl kBs kLf kAt kWl mRd kRm hsh)) (MdW om xS xV xB xT xA xP xR cI thr mS mSv kSm mBf kLn mTl mAl mPl kBs kLf kAt kWl mRd kRm hsh) → va_S (wr_in (MdW om xS xV xB xT xA xP xR cI thr mS mSv kSm mBf kLn mTl mAl mPl kBs kLf kAt kWl mRd kRm hsh)) s.heap H locs → wr_W p l e wsX5_hashes ({ frames := 0, cells := 0, slots := 0, locals := 0 } : Room) s m [.ref om, .long a] below meth c D (MdW om xS xV xB xT xA xP xR cI thr mS mSv kSm mBf kLn mTl mAl mPl kBs kLf kAt kWl mRd kRm hsh) (fun v w9 => v = none ∧ w9 = MdW om xS xV xB xT xA xP xR cI thr mS mSv kSm mBf kLn mTl mAl mPl kBs kLf kAt kWl mRd kRm (gHx hsh a)) H locs (F0 m 0 ls []) from body _ _ hP hD hS
  clear hP hD hS
  intro H locs hP hD hS
  refine lv_aload_n hx hb dX5_hashes_0 rfl (lv_at hl 0 rfl) ?_
  refine lv_ldc2 (v := 31) hx hb hown hw229 dX5_hashes_1 ?_
  refine lv_aload_n hx hb dX5_hashes_4 rfl (lv_at hl 0 rfl) ?_
  refine va_get (D := D) (ci := 5) (v := .long hsh) (C := RX5) (T := TX5) (N := 16) hx hb hts hinX5 hown hK hP 0 rfl rfl 15 (by decide) hw231 (fun _ h9 => h9) rfl dX5_hashes_5 ?_
  refine lv_lmul hx hb dX5_hashes_8 ?_
  refine lv_lload_n hx hb dX5_hashes_9 rfl (lv_at hl 1 rfl) ?_
  refine lv_ladd hx hb dX5_hashes_10 ?_
  refine va_put (D := D) (ci := 5) (v := .long ((31 * hsh) + a)) (ty := .long) (C := RX5) (T := TX5) (N := 16) hx hb hts hinX5 tyX5 tyX5_ok nmX5 hown hK hP hD hS 0 rfl rfl 15 (by decide) hw231 (fun _ h9 => h9) rfl (by decide +kernel) rfl rfl (Nat.le_of_ble_eq_true rfl) dX5_hashes_11 (fun H locs hP hD hS => ?_)
  have hP : va_P D vwCl (MdW om xS xV xB xT xA xP xR cI thr mS mSv kSm mBf kLn mTl mAl mPl kBs kLf kAt kWl mRd kRm ((31 * hsh) + a)) H := hP
  have hD : va_D (wr_in (MdW om xS xV xB xT xA xP xR cI thr mS mSv kSm mBf kLn mTl mAl mPl kBs kLf kAt kWl mRd kRm hsh)) (MdW om xS xV xB xT xA xP xR cI thr mS mSv kSm mBf kLn mTl mAl mPl kBs kLf kAt kWl mRd kRm ((31 * hsh) + a)) := hD
  exact wr_vret hx hb hr hlocks hP hS rfl dX5_hashes_14 (by exact ⟨rfl, rfl⟩)
set_option maxHeartbeats 4000000 in
set_option maxRecDepth 100000 in
theorem c_Jxe99ae_isNaN_b9ae7 (l : Launch) (D : va_G) {x : UInt64} (hs : FP.dcmp x x = some .eq) : wr_M l yJxe99ae_isNaN_b9ae7 wsJxe99ae_isNaN_b9ae7 ({ frames := 0, cells := 0, slots := 0, locals := 0 } : Room) D (E0) [] [.double x] (fun v w9 => v = some (.int (bI false)) ∧ w9 = E0) := by
  refine wr_of (cc := cJxe99ae_isNaN_b9ae7) (maxL := 2) (ret := some .boolean) (by decide) rfl (Nat.le_of_ble_eq_true rfl) ?_
  intro p e s m below meth c hx hb hr hml hts hown hlocks hP hK hN hZ hD hS ls hl
  have hown : s.vm.findClass RJxe99ae = some m.cls := hown
  have hl : lv_has ls 2 [(0, .double x)] := hl
  suffices body : ∀ (H : Heap) (locs : List Loc), va_P D vwCl (E0) H → va_D (wr_in (E0)) (E0) → va_S (wr_in (E0)) s.heap H locs → wr_W p l e wsJxe99ae_isNaN_b9ae7 ({ frames := 0, cells := 0, slots := 0, locals := 0 } : Room) s m [.double x] below meth c D (E0) (fun v w9 => v = some (.int (bI false)) ∧ w9 = E0) H locs (F0 m 0 ls []) from body _ _ hP hD hS
  clear hP hD hS
  intro H locs hP hD hS
  refine lv_dload_n hx hb dJxe99ae_isNaN_b9ae7_0 rfl (lv_at hl 0 rfl) ?_
  refine lv_dload_n hx hb dJxe99ae_isNaN_b9ae7_1 rfl (lv_at hl 0 rfl) ?_
  refine lv_dcmp hx hb dJxe99ae_isNaN_b9ae7_2 ?_
  refine lv_asi (y := 0) (by rw [hs, cmpv_eql]) ?_
  refine lv_if_eq (tgt := 10) hx hb dJxe99ae_isNaN_b9ae7_3 (by decide) (fun _ => ?_) (fun h9 => absurd (by decide) h9)
  refine lv_iconst (v := 0) hx hb dJxe99ae_isNaN_b9ae7_10 (by decide) ?_
  exact wr_zret (b := false) hx hb hr hlocks hP hS rfl dJxe99ae_isNaN_b9ae7_11 (by exact ⟨rfl, rfl⟩)
set_option maxHeartbeats 4000000 in
set_option maxRecDepth 100000 in
theorem c_Jxe99ae_doubleToLongBits_ccdee (l : Launch) (D : va_G) {x : UInt64} (hs : FP.dcmp x x = some .eq) : wr_M l yJxe99ae_doubleToLongBits_ccdee wsJxe99ae_doubleToLongBits_ccdee ({ frames := 1, cells := 0, slots := 0, locals := 40 } : Room) D (E0) [] [.double x] (fun v w9 => v = some (.long x.toInt64) ∧ w9 = E0) := by
  refine wr_of (cc := cJxe99ae_doubleToLongBits_ccdee) (maxL := 2) (ret := some .long) (by decide) rfl (Nat.le_of_ble_eq_true rfl) ?_
  intro p e s m below meth c hx hb hr hml hts hown hlocks hP hK hN hZ hD hS ls hl
  have hown : s.vm.findClass RJxe99ae = some m.cls := hown
  have hl : lv_has ls 2 [(0, .double x)] := hl
  suffices body : ∀ (H : Heap) (locs : List Loc), va_P D vwCl (E0) H → va_D (wr_in (E0)) (E0) → va_S (wr_in (E0)) s.heap H locs → wr_W p l e wsJxe99ae_doubleToLongBits_ccdee ({ frames := 1, cells := 0, slots := 0, locals := 40 } : Room) s m [.double x] below meth c D (E0) (fun v w9 => v = some (.long x.toInt64) ∧ w9 = E0) H locs (F0 m 0 ls []) from body _ _ hP hD hS
  clear hP hD hS
  intro H locs hP hD hS
  refine lv_dload_n hx hb dJxe99ae_doubleToLongBits_ccdee_0 rfl (lv_at hl 0 rfl) ?_
  refine wr_callS (As := [.double x]) (rest := []) ⟨hx, hb, hml, hown, hts⟩ (c_Jxe99ae_isNaN_b9ae7 l D hs) (va_cwS 1 hts gJxe99ae_doubleToLongBits_ccdee_Jxe99ae_isNaN_b9ae7 rfl rfl rfl (by decide +kernel) ⟨by decide, by decide⟩) hK hN hZ hP hD hS [] [] rfl (by decide) rfl rfl hl.1 rfl (Nat.le_of_ble_eq_true rfl) ⟨by decide, by decide⟩ dJxe99ae_doubleToLongBits_ccdee_1 (fun v9 w9 H locs hp9 hP hD hS => ?_)
  obtain ⟨rfl, rfl⟩ := hp9
  have hP : va_P D vwCl (E0) H := hP
  have hD : va_D (wr_in (E0)) (E0) := hD
  refine W.eq (g2 := F0 m 4 ls [.int (bI false)]) rfl ?_
  refine rd_ifne_b (tgt := 12) hx hb dJxe99ae_doubleToLongBits_ccdee_4 (by decide) (fun c_4 => ?_) (fun c_4 => ?_)
  · exact absurd c_4 Bool.false_ne_true
  refine lv_dload_n hx hb dJxe99ae_doubleToLongBits_ccdee_7 rfl (lv_at hl 0 rfl) ?_
  refine vn_d2l hx hb (hml.trans hl.1.symm) hown (hts (.methodLink RJxe99ae 134 ⟨"java/lang/Double", "doubleToRawLongBits", "(D)J"⟩) (by decide +kernel)) (hts (.native ⟨"java/lang/Double", "doubleToRawLongBits", "(D)J"⟩) (by decide +kernel)) (hts (.static ⟨"java/lang/Double", "doubleToRawLongBits", "(D)J"⟩) (by decide +kernel)) (hts (.initialized "java/lang/Double") (by decide +kernel)) (Nat.le_of_ble_eq_true rfl) (Nat.le_of_ble_eq_true rfl) dJxe99ae_doubleToLongBits_ccdee_8 ?_
  exact wr_lret hx hb hr hlocks hP hS rfl dJxe99ae_doubleToLongBits_ccdee_11 (by exact ⟨rfl, rfl⟩)
set_option maxHeartbeats 4000000 in
set_option maxRecDepth 100000 in
theorem c_X5_digest (l : Launch) (D : va_G) {om xS xV xB xT xA xP xR : Nat} {cI : ClassId} {thr kBs kLf kAt kWl kRm : Int32} {hsh : Int64} {mS mSv mBf mTl mAl mPl mRd : Nat → Int32} {n : Nat} {P : Nat → Nat → Int32} {q : Nat} (hq6 : q ≤ 6) (hn8 : n ≤ 8) (hQ : mdS n P mS) (hbk : bd_ok n P) {b : Nat} (hb60 : b ≤ 60) (hs : Nat → BS) : wr_M l yX5_digest wsX5_digest ({ frames := 8, cells := 0, slots := 0, locals := 184 } : Room) D (MdW om xS xV xB xT xA xP xR cI thr mS mSv (nI q) mBf (nI b) mTl mAl mPl kBs kLf kAt kWl mRd kRm hsh) [(cI, .int)] [.ref om] (fun v w9 => v = some (.long (gDig ((n, P), (q, hs), (b, mBf)))) ∧ ∃ (al9 tl9 : Nat → Int32) (lf9 bs9 : Int32) (pl9 : Nat → Int32) (hsh9 : Int64), w9 = MdW om xS xV xB xT xA xP xR cI 0 mS mSv (nI q) mBf (nI b) tl9 al9 pl9 bs9 lf9 kAt kWl mRd kRm hsh9) := by
  refine wr_of (cc := cX5_digest) (maxL := 3) (ret := some .long) (by decide) rfl (Nat.le_of_ble_eq_true rfl) ?_
  intro p e s m below meth c hx hb hr hml hts hown hlocks hP hK hN hZ hD hS ls hl
  have hown : s.vm.findClass RX5 = some m.cls := hown
  have hl : lv_has ls 3 [(0, .ref om)] := hl
  have hinX5 : ∀ w ∈ u_ws RX5 TX5 16, w ∈ wsX5_digest := by decide +kernel
  have hw31 := hts (.fieldLink RX5 31 "CornerLabelsModel" "thrown" "I") (by decide +kernel)
  have hw235 := hts (.constantLong RX5 235 (2833)) (by decide +kernel)
  have hw231 := hts (.fieldLink RX5 231 "CornerLabelsModel" "hash" "J") (by decide +kernel)
  have hw7 := hts (.fieldLink RX5 7 "CornerLabelsModel" "s" "[I") (by decide +kernel)
  have hw154 := hts (.fieldLink RX5 154 "CornerLabelsModel" "length" "I") (by decide +kernel)
  have hw16 := hts (.fieldLink RX5 16 "CornerLabelsModel" "buffer" "[I") (by decide +kernel)
  suffices body : ∀ (H : Heap) (locs : List Loc), va_P D vwCl (MdW om xS xV xB xT xA xP xR cI thr mS mSv (nI q) mBf (nI b) mTl mAl mPl kBs kLf kAt kWl mRd kRm hsh) H → va_D (wr_in (MdW om xS xV xB xT xA xP xR cI thr mS mSv (nI q) mBf (nI b) mTl mAl mPl kBs kLf kAt kWl mRd kRm hsh)) (MdW om xS xV xB xT xA xP xR cI thr mS mSv (nI q) mBf (nI b) mTl mAl mPl kBs kLf kAt kWl mRd kRm hsh) → va_S (wr_in (MdW om xS xV xB xT xA xP xR cI thr mS mSv (nI q) mBf (nI b) mTl mAl mPl kBs kLf kAt kWl mRd kRm hsh)) s.heap H locs → wr_W p l e wsX5_digest ({ frames := 8, cells := 0, slots := 0, locals := 184 } : Room) s m [.ref om] below meth c D (MdW om xS xV xB xT xA xP xR cI thr mS mSv (nI q) mBf (nI b) mTl mAl mPl kBs kLf kAt kWl mRd kRm hsh) (fun v w9 => v = some (.long (gDig ((n, P), (q, hs), (b, mBf)))) ∧ ∃ (al9 tl9 : Nat → Int32) (lf9 bs9 : Int32) (pl9 : Nat → Int32) (hsh9 : Int64), w9 = MdW om xS xV xB xT xA xP xR cI 0 mS mSv (nI q) mBf (nI b) tl9 al9 pl9 bs9 lf9 kAt kWl mRd kRm hsh9) H locs (F0 m 0 ls []) from body _ _ hP hD hS
  clear hP hD hS
  intro H locs hP hD hS
  refine lv_aload_n hx hb dX5_digest_0 rfl (lv_at hl 0 rfl) ?_
  refine lv_iconst (v := 0) hx hb dX5_digest_1 (by decide) ?_
  refine va_put (D := D) (ci := 5) (v := .int 0) (ty := .int) (C := RX5) (T := TX5) (N := 16) hx hb hts hinX5 tyX5 tyX5_ok nmX5 hown hK hP hD hS 0 rfl rfl 0 (by decide) hw31 (fun _ h9 => h9) rfl (by decide +kernel) rfl rfl (Nat.le_of_ble_eq_true rfl) dX5_digest_2 (fun H locs hP hD hS => ?_)
  have hP : va_P D vwCl (MdW om xS xV xB xT xA xP xR cI 0 mS mSv (nI q) mBf (nI b) mTl mAl mPl kBs kLf kAt kWl mRd kRm hsh) H := hP
  have hD : va_D (wr_in (MdW om xS xV xB xT xA xP xR cI thr mS mSv (nI q) mBf (nI b) mTl mAl mPl kBs kLf kAt kWl mRd kRm hsh)) (MdW om xS xV xB xT xA xP xR cI 0 mS mSv (nI q) mBf (nI b) mTl mAl mPl kBs kLf kAt kWl mRd kRm hsh) := hD
  refine lv_aload_n hx hb dX5_digest_5 rfl (lv_at hl 0 rfl) ?_
  refine lv_ldc2 (v := 2833) hx hb hown hw235 dX5_digest_6 ?_
  refine va_put (D := D) (ci := 5) (v := .long 2833) (ty := .long) (C := RX5) (T := TX5) (N := 16) hx hb hts hinX5 tyX5 tyX5_ok nmX5 hown hK hP hD hS 0 rfl rfl 15 (by decide) hw231 (fun _ h9 => h9) rfl (by decide +kernel) rfl rfl (Nat.le_of_ble_eq_true rfl) dX5_digest_9 (fun H locs hP hD hS => ?_)
  have hP : va_P D vwCl (MdW om xS xV xB xT xA xP xR cI 0 mS mSv (nI q) mBf (nI b) mTl mAl mPl kBs kLf kAt kWl mRd kRm 2833) H := hP
  have hD : va_D (wr_in (MdW om xS xV xB xT xA xP xR cI thr mS mSv (nI q) mBf (nI b) mTl mAl mPl kBs kLf kAt kWl mRd kRm hsh)) (MdW om xS xV xB xT xA xP xR cI 0 mS mSv (nI q) mBf (nI b) mTl mAl mPl kBs kLf kAt kWl mRd kRm 2833) := hD
  refine lv_iconst (v := 0) hx hb dX5_digest_12 (by decide) ?_
  refine lv_istore_n (lv' := [(1, .int 0), (0, .ref om)]) hx hb dX5_digest_13 rfl hl (by decide) rfl (fun ls hl => ?_)
  suffices loop14 : ∀ (k14 k : Nat) (h1 : Int64) (H : Heap) (locs : List Loc) (ls : Array Slot), k ≤ 9 → 9 + 1 ≤ k + k14 → (gLg 9 (hxC n P (nI q)) 0 2833 = gLg 9 (hxC n P (nI q)) k h1) → va_P D vwCl (MdW om xS xV xB xT xA xP xR cI 0 mS mSv (nI q) mBf (nI b) mTl mAl mPl kBs kLf kAt kWl mRd kRm h1) H → va_D (wr_in (MdW om xS xV xB xT xA xP xR cI thr mS mSv (nI q) mBf (nI b) mTl mAl mPl kBs kLf kAt kWl mRd kRm hsh)) (MdW om xS xV xB xT xA xP xR cI 0 mS mSv (nI q) mBf (nI b) mTl mAl mPl kBs kLf kAt kWl mRd kRm h1) → va_S (wr_in (MdW om xS xV xB xT xA xP xR cI thr mS mSv (nI q) mBf (nI b) mTl mAl mPl kBs kLf kAt kWl mRd kRm hsh)) s.heap H locs → lv_has ls 3 [(0, .ref om), (1, .int (nI k))] → wr_W p l e wsX5_digest ({ frames := 8, cells := 0, slots := 0, locals := 184 } : Room) s m [.ref om] below meth c D (MdW om xS xV xB xT xA xP xR cI thr mS mSv (nI q) mBf (nI b) mTl mAl mPl kBs kLf kAt kWl mRd kRm hsh) (fun v w9 => v = some (.long (gDig ((n, P), (q, hs), (b, mBf)))) ∧ ∃ (al9 tl9 : Nat → Int32) (lf9 bs9 : Int32) (pl9 : Nat → Int32) (hsh9 : Int64), w9 = MdW om xS xV xB xT xA xP xR cI 0 mS mSv (nI q) mBf (nI b) tl9 al9 pl9 bs9 lf9 kAt kWl mRd kRm hsh9) H locs (F0 m 14 ls []) from
    loop14 (9 + 1) 0 2833 H locs ls (by omega) (by omega) (by rfl) hP hD hS (lv_sub hl [1, 0] rfl)
  intro k14
  induction k14 with
  | zero => intro k h1 H locs ls h1 h2; exact absurd h2 (by omega)
  | succ k14 ih14 =>
    intro k h1 H locs ls hle14 hlt14 inv14 hP hD hS hl
    refine lv_iload_n hx hb dX5_digest_14 rfl (lv_at hl 1 rfl) ?_
    refine lv_bipush (v := 9) hx hb dX5_digest_15 (by decide) ?_
    refine rd_icmp_ge_n (a := k) (b := 9) (tgt := 36) (by omega) (by omega) hx hb dX5_digest_17 (by decide) (fun c_17 => ?_) (fun c_17 => ?_)
    · have c_17n := Nat.not_lt.mpr c_17
      refine lv_iconst (v := 0) hx hb dX5_digest_36 (by decide) ?_
      refine lv_istore_n (lv' := [(1, .int 0), (0, .ref om)]) hx hb dX5_digest_37 rfl hl (by decide) rfl (fun ls hl => ?_)
      suffices loop38 : ∀ (k38 i : Nat) (j0 : Nat → Int32) (j1 : Nat → Int32) (j2 : Nat → Int32) (j3 : Int32) (j4 : Int32) (h2 : Int64) (H : Heap) (locs : List Loc) (ls : Array Slot), i ≤ n → n + 1 ≤ i + k38 → (gLg n (hxP n P) 0 h1 = gLg n (hxP n P) i h2) → va_P D vwCl (MdW om xS xV xB xT xA xP xR cI 0 mS mSv (nI q) mBf (nI b) j0 j1 j2 j3 j4 kAt kWl mRd kRm h2) H → va_D (wr_in (MdW om xS xV xB xT xA xP xR cI thr mS mSv (nI q) mBf (nI b) mTl mAl mPl kBs kLf kAt kWl mRd kRm hsh)) (MdW om xS xV xB xT xA xP xR cI 0 mS mSv (nI q) mBf (nI b) j0 j1 j2 j3 j4 kAt kWl mRd kRm h2) → va_S (wr_in (MdW om xS xV xB xT xA xP xR cI thr mS mSv (nI q) mBf (nI b) mTl mAl mPl kBs kLf kAt kWl mRd kRm hsh)) s.heap H locs → lv_has ls 3 [(0, .ref om), (1, .int (nI i))] → wr_W p l e wsX5_digest ({ frames := 8, cells := 0, slots := 0, locals := 184 } : Room) s m [.ref om] below meth c D (MdW om xS xV xB xT xA xP xR cI thr mS mSv (nI q) mBf (nI b) mTl mAl mPl kBs kLf kAt kWl mRd kRm hsh) (fun v w9 => v = some (.long (gDig ((n, P), (q, hs), (b, mBf)))) ∧ ∃ (al9 tl9 : Nat → Int32) (lf9 bs9 : Int32) (pl9 : Nat → Int32) (hsh9 : Int64), w9 = MdW om xS xV xB xT xA xP xR cI 0 mS mSv (nI q) mBf (nI b) tl9 al9 pl9 bs9 lf9 kAt kWl mRd kRm hsh9) H locs (F0 m 38 ls []) from
        loop38 (n + 1) 0 mTl mAl mPl kBs kLf h1 H locs ls (by omega) (by omega) (by rfl) hP hD hS (lv_sub hl [1, 0] rfl)
      intro k38
      induction k38 with
      | zero => intro i j0 j1 j2 j3 j4 h2 H locs ls h1 h2; exact absurd h2 (by omega)
      | succ k38 ih38 =>
        intro i j0 j1 j2 j3 j4 h2 H locs ls hle38 hlt38 inv38 hP hD hS hl
        refine lv_iload_n hx hb dX5_digest_38 rfl (lv_at hl 1 rfl) ?_
        refine lv_aload_n hx hb dX5_digest_39 rfl (lv_at hl 0 rfl) ?_
        refine va_get (D := D) (ci := 5) (v := .ref xS) (C := RX5) (T := TX5) (N := 16) hx hb hts hinX5 hown hK hP 0 rfl rfl 1 (by decide) hw7 (fun _ h9 => h9) rfl dX5_digest_40 ?_
        refine lv_iconst (v := 0) hx hb dX5_digest_43 (by decide) ?_
        refine rd_ald (q0 := 1) (t0 := 0) (j := 0) (v := nI n) hx hb hK hP rfl rfl (rfl) (by omega) (by decide) (hQ.1) dX5_digest_44 ?_
        refine rd_icmp_ge_n (a := i) (b := n) (tgt := 109) (by omega) (by omega) hx hb dX5_digest_45 (by decide) (fun c_45 => ?_) (fun c_45 => ?_)
        · have c_45n := Nat.not_lt.mpr c_45
          refine lv_iconst (v := 0) hx hb dX5_digest_109 (by decide) ?_
          refine lv_istore_n (lv' := [(1, .int 0), (0, .ref om)]) hx hb dX5_digest_110 rfl hl (by decide) rfl (fun ls hl => ?_)
          suffices loop111 : ∀ (k111 i : Nat) (h4 : Int64) (H : Heap) (locs : List Loc) (ls : Array Slot), i ≤ n → n + 1 ≤ i + k111 → (gLg n (hxO n P) 0 h2 = gLg n (hxO n P) i h4) → va_P D vwCl (MdW om xS xV xB xT xA xP xR cI 0 mS mSv (nI q) mBf (nI b) j0 j1 j2 j3 j4 kAt kWl mRd kRm h4) H → va_D (wr_in (MdW om xS xV xB xT xA xP xR cI thr mS mSv (nI q) mBf (nI b) mTl mAl mPl kBs kLf kAt kWl mRd kRm hsh)) (MdW om xS xV xB xT xA xP xR cI 0 mS mSv (nI q) mBf (nI b) j0 j1 j2 j3 j4 kAt kWl mRd kRm h4) → va_S (wr_in (MdW om xS xV xB xT xA xP xR cI thr mS mSv (nI q) mBf (nI b) mTl mAl mPl kBs kLf kAt kWl mRd kRm hsh)) s.heap H locs → lv_has ls 3 [(0, .ref om), (1, .int (nI i))] → wr_W p l e wsX5_digest ({ frames := 8, cells := 0, slots := 0, locals := 184 } : Room) s m [.ref om] below meth c D (MdW om xS xV xB xT xA xP xR cI thr mS mSv (nI q) mBf (nI b) mTl mAl mPl kBs kLf kAt kWl mRd kRm hsh) (fun v w9 => v = some (.long (gDig ((n, P), (q, hs), (b, mBf)))) ∧ ∃ (al9 tl9 : Nat → Int32) (lf9 bs9 : Int32) (pl9 : Nat → Int32) (hsh9 : Int64), w9 = MdW om xS xV xB xT xA xP xR cI 0 mS mSv (nI q) mBf (nI b) tl9 al9 pl9 bs9 lf9 kAt kWl mRd kRm hsh9) H locs (F0 m 111 ls []) from
            loop111 (n + 1) 0 h2 H locs ls (by omega) (by omega) (by rfl) hP hD hS (lv_sub hl [1, 0] rfl)
          intro k111
          induction k111 with
          | zero => intro i h4 H locs ls h1 h2; exact absurd h2 (by omega)
          | succ k111 ih111 =>
            intro i h4 H locs ls hle111 hlt111 inv111 hP hD hS hl
            refine lv_iload_n hx hb dX5_digest_111 rfl (lv_at hl 1 rfl) ?_
            refine lv_aload_n hx hb dX5_digest_112 rfl (lv_at hl 0 rfl) ?_
            refine va_get (D := D) (ci := 5) (v := .ref xS) (C := RX5) (T := TX5) (N := 16) hx hb hts hinX5 hown hK hP 0 rfl rfl 1 (by decide) hw7 (fun _ h9 => h9) rfl dX5_digest_113 ?_
            refine lv_iconst (v := 0) hx hb dX5_digest_116 (by decide) ?_
            refine rd_ald (q0 := 1) (t0 := 0) (j := 0) (v := nI n) hx hb hK hP rfl rfl (rfl) (by omega) (by decide) (hQ.1) dX5_digest_117 ?_
            refine rd_icmp_ge_n (a := i) (b := n) (tgt := 173) (by omega) (by omega) hx hb dX5_digest_118 (by decide) (fun c_118 => ?_) (fun c_118 => ?_)
            · have c_118n := Nat.not_lt.mpr c_118
              refine lv_aload_n hx hb dX5_digest_173 rfl (lv_at hl 0 rfl) ?_
              refine lv_aload_n hx hb dX5_digest_174 rfl (lv_at hl 0 rfl) ?_
              refine lv_iconst (v := (-1)) hx hb dX5_digest_175 (by decide) ?_
              refine wr_callV (As := [.int (-1)]) (rest := [.ref om]) ⟨hx, hb, hml, hown, hts⟩ (c_X5_heaviest2 (P := P) l D (q := q) hq6 hn8 hQ hbk (-1)) (cwV 1 hts gX5_digest_X5_heaviest rfl rfl rfl (by decide +kernel) ⟨by decide, by decide⟩) hK hN hZ hP hD hS [0, 1, 2, 3, 4, 5, 6, 7] [0] rfl (by decide) rfl (q0 := 0) rfl rfl rfl hl.1 rfl (Nat.le_of_ble_eq_true rfl) ⟨by decide, by decide⟩ dX5_digest_176 (fun v9 w9 H locs hp9 hP hD hS => ?_)
              obtain ⟨rfl, al_176, tl_176, lf_176, bs_176, pl_176, rfl⟩ := hp9
              have hP : va_P D vwCl (MdW om xS xV xB xT xA xP xR cI 0 mS mSv (nI q) mBf (nI b) tl_176 al_176 pl_176 bs_176 lf_176 kAt kWl mRd kRm h4) H := hP
              have hD : va_D (wr_in (MdW om xS xV xB xT xA xP xR cI thr mS mSv (nI q) mBf (nI b) mTl mAl mPl kBs kLf kAt kWl mRd kRm hsh)) (MdW om xS xV xB xT xA xP xR cI 0 mS mSv (nI q) mBf (nI b) tl_176 al_176 pl_176 bs_176 lf_176 kAt kWl mRd kRm h4) := hD
              refine W.eq (g2 := F0 m 179 ls [.int (hvW n P (-1)), .ref om]) rfl ?_
              refine lv_i2l (v := (hvW n P (-1) : Int32).toInt64) hx hb dX5_digest_179 rfl ?_
              refine wr_callV (As := [.long ((hvW n P (-1) : Int32).toInt64)]) (rest := []) ⟨hx, hb, hml, hown, hts⟩ (c_X5_hashes l D ((hvW n P (-1) : Int32).toInt64)) (cwV 1 hts gX5_digest_X5_hashes rfl rfl rfl (by decide +kernel) ⟨by decide, by decide⟩) hK hN hZ hP hD hS [0, 1, 2, 3, 4, 5, 6, 7] [0] rfl (by decide) rfl (q0 := 0) rfl rfl rfl hl.1 rfl (Nat.le_of_ble_eq_true rfl) ⟨by decide, by decide⟩ dX5_digest_180 (fun v9 w9 H locs hp9 hP hD hS => ?_)
              obtain ⟨rfl, rfl⟩ := hp9
              have hP : va_P D vwCl (MdW om xS xV xB xT xA xP xR cI 0 mS mSv (nI q) mBf (nI b) tl_176 al_176 pl_176 bs_176 lf_176 kAt kWl mRd kRm (gHx h4 ((hvW n P (-1) : Int32).toInt64))) H := hP
              have hD : va_D (wr_in (MdW om xS xV xB xT xA xP xR cI thr mS mSv (nI q) mBf (nI b) mTl mAl mPl kBs kLf kAt kWl mRd kRm hsh)) (MdW om xS xV xB xT xA xP xR cI 0 mS mSv (nI q) mBf (nI b) tl_176 al_176 pl_176 bs_176 lf_176 kAt kWl mRd kRm (gHx h4 ((hvW n P (-1) : Int32).toInt64))) := hD
              refine W.eq (g2 := F0 m 183 ls []) rfl ?_
              refine lv_aload_n hx hb dX5_digest_183 rfl (lv_at hl 0 rfl) ?_
              refine lv_aload_n hx hb dX5_digest_184 rfl (lv_at hl 0 rfl) ?_
              refine wr_callV (As := []) (rest := [.ref om]) ⟨hx, hb, hml, hown, hts⟩ (c_X5_fulls2 (P := P) l D (q := q) hq6 hn8 hQ hbk) (cwV 0 hts gX5_digest_X5_fulls rfl rfl rfl (by decide +kernel) ⟨by decide, by decide⟩) hK hN hZ hP hD hS [0, 1, 2, 3, 4, 5, 6, 7] [0] rfl (by decide) rfl (q0 := 0) rfl rfl rfl hl.1 rfl (Nat.le_of_ble_eq_true rfl) ⟨by decide, by decide⟩ dX5_digest_185 (fun v9 w9 H locs hp9 hP hD hS => ?_)
              obtain ⟨rfl, al_185, tl_185, lf_185, bs_185, pl_185, rfl⟩ := hp9
              have hP : va_P D vwCl (MdW om xS xV xB xT xA xP xR cI 0 mS mSv (nI q) mBf (nI b) tl_185 al_185 pl_185 bs_185 lf_185 kAt kWl mRd kRm (gHx h4 ((hvW n P (-1) : Int32).toInt64))) H := hP
              have hD : va_D (wr_in (MdW om xS xV xB xT xA xP xR cI thr mS mSv (nI q) mBf (nI b) mTl mAl mPl kBs kLf kAt kWl mRd kRm hsh)) (MdW om xS xV xB xT xA xP xR cI 0 mS mSv (nI q) mBf (nI b) tl_185 al_185 pl_185 bs_185 lf_185 kAt kWl mRd kRm (gHx h4 ((hvW n P (-1) : Int32).toInt64))) := hD
              refine W.eq (g2 := F0 m 188 ls [.int ((mFu n P (fun _ => 0)).1), .ref om]) rfl ?_
              refine lv_i2l (v := ((mFu n P (fun _ => 0)).1 : Int32).toInt64) hx hb dX5_digest_188 rfl ?_
              refine wr_callV (As := [.long (((mFu n P (fun _ => 0)).1 : Int32).toInt64)]) (rest := []) ⟨hx, hb, hml, hown, hts⟩ (c_X5_hashes l D (((mFu n P (fun _ => 0)).1 : Int32).toInt64)) (cwV 1 hts gX5_digest_X5_hashes rfl rfl rfl (by decide +kernel) ⟨by decide, by decide⟩) hK hN hZ hP hD hS [0, 1, 2, 3, 4, 5, 6, 7] [0] rfl (by decide) rfl (q0 := 0) rfl rfl rfl hl.1 rfl (Nat.le_of_ble_eq_true rfl) ⟨by decide, by decide⟩ dX5_digest_189 (fun v9 w9 H locs hp9 hP hD hS => ?_)
              obtain ⟨rfl, rfl⟩ := hp9
              have hP : va_P D vwCl (MdW om xS xV xB xT xA xP xR cI 0 mS mSv (nI q) mBf (nI b) tl_185 al_185 pl_185 bs_185 lf_185 kAt kWl mRd kRm (gHx (gHx h4 ((hvW n P (-1) : Int32).toInt64)) (((mFu n P (fun _ => 0)).1 : Int32).toInt64))) H := hP
              have hD : va_D (wr_in (MdW om xS xV xB xT xA xP xR cI thr mS mSv (nI q) mBf (nI b) mTl mAl mPl kBs kLf kAt kWl mRd kRm hsh)) (MdW om xS xV xB xT xA xP xR cI 0 mS mSv (nI q) mBf (nI b) tl_185 al_185 pl_185 bs_185 lf_185 kAt kWl mRd kRm (gHx (gHx h4 ((hvW n P (-1) : Int32).toInt64)) (((mFu n P (fun _ => 0)).1 : Int32).toInt64))) := hD
              refine W.eq (g2 := F0 m 192 ls []) rfl ?_
              refine lv_aload_n hx hb dX5_digest_192 rfl (lv_at hl 0 rfl) ?_
              refine lv_aload_n hx hb dX5_digest_193 rfl (lv_at hl 0 rfl) ?_
              refine wr_callV (As := []) (rest := [.ref om]) ⟨hx, hb, hml, hown, hts⟩ (c_X5_dear (P := P) l D (q := q) hq6 hn8 hQ hbk) (cwV 0 hts gX5_digest_X5_dear rfl rfl rfl (by decide +kernel) ⟨by decide, by decide⟩) hK hN hZ hP hD hS [0, 1, 2, 3, 4, 5, 6, 7] [0] rfl (by decide) rfl (q0 := 0) rfl rfl rfl hl.1 rfl (Nat.le_of_ble_eq_true rfl) ⟨by decide, by decide⟩ dX5_digest_194 (fun v9 w9 H locs hp9 hP hD hS => ?_)
              obtain ⟨rfl, al_194, tl_194, lf_194, bs_194, pl_194, rfl⟩ := hp9
              have hP : va_P D vwCl (MdW om xS xV xB xT xA xP xR cI 0 mS mSv (nI q) mBf (nI b) tl_194 al_194 pl_194 bs_194 lf_194 kAt kWl mRd kRm (gHx (gHx h4 ((hvW n P (-1) : Int32).toInt64)) (((mFu n P (fun _ => 0)).1 : Int32).toInt64))) H := hP
              have hD : va_D (wr_in (MdW om xS xV xB xT xA xP xR cI thr mS mSv (nI q) mBf (nI b) mTl mAl mPl kBs kLf kAt kWl mRd kRm hsh)) (MdW om xS xV xB xT xA xP xR cI 0 mS mSv (nI q) mBf (nI b) tl_194 al_194 pl_194 bs_194 lf_194 kAt kWl mRd kRm (gHx (gHx h4 ((hvW n P (-1) : Int32).toInt64)) (((mFu n P (fun _ => 0)).1 : Int32).toInt64))) := hD
              refine W.eq (g2 := F0 m 197 ls [.int (mDear n P), .ref om]) rfl ?_
              refine lv_i2l (v := (mDear n P : Int32).toInt64) hx hb dX5_digest_197 rfl ?_
              refine wr_callV (As := [.long ((mDear n P : Int32).toInt64)]) (rest := []) ⟨hx, hb, hml, hown, hts⟩ (c_X5_hashes l D ((mDear n P : Int32).toInt64)) (cwV 1 hts gX5_digest_X5_hashes rfl rfl rfl (by decide +kernel) ⟨by decide, by decide⟩) hK hN hZ hP hD hS [0, 1, 2, 3, 4, 5, 6, 7] [0] rfl (by decide) rfl (q0 := 0) rfl rfl rfl hl.1 rfl (Nat.le_of_ble_eq_true rfl) ⟨by decide, by decide⟩ dX5_digest_198 (fun v9 w9 H locs hp9 hP hD hS => ?_)
              obtain ⟨rfl, rfl⟩ := hp9
              have hP : va_P D vwCl (MdW om xS xV xB xT xA xP xR cI 0 mS mSv (nI q) mBf (nI b) tl_194 al_194 pl_194 bs_194 lf_194 kAt kWl mRd kRm (gHx (gHx (gHx h4 ((hvW n P (-1) : Int32).toInt64)) (((mFu n P (fun _ => 0)).1 : Int32).toInt64)) ((mDear n P : Int32).toInt64))) H := hP
              have hD : va_D (wr_in (MdW om xS xV xB xT xA xP xR cI thr mS mSv (nI q) mBf (nI b) mTl mAl mPl kBs kLf kAt kWl mRd kRm hsh)) (MdW om xS xV xB xT xA xP xR cI 0 mS mSv (nI q) mBf (nI b) tl_194 al_194 pl_194 bs_194 lf_194 kAt kWl mRd kRm (gHx (gHx (gHx h4 ((hvW n P (-1) : Int32).toInt64)) (((mFu n P (fun _ => 0)).1 : Int32).toInt64)) ((mDear n P : Int32).toInt64))) := hD
              refine W.eq (g2 := F0 m 201 ls []) rfl ?_
              refine lv_aload_n hx hb dX5_digest_201 rfl (lv_at hl 0 rfl) ?_
              refine lv_aload_n hx hb dX5_digest_202 rfl (lv_at hl 0 rfl) ?_
              refine wr_callV (As := []) (rest := [.ref om]) ⟨hx, hb, hml, hown, hts⟩ (c_X5_share (P := P) l D hn8 hQ hbk) (cwV 0 hts gX5_digest_X5_share rfl rfl rfl (by decide +kernel) ⟨by decide, by decide⟩) hK hN hZ hP hD hS [0, 1, 2, 3, 4, 5, 6, 7] [0] rfl (by decide) rfl (q0 := 0) rfl rfl rfl hl.1 rfl (Nat.le_of_ble_eq_true rfl) ⟨by decide, by decide⟩ dX5_digest_203 (fun v9 w9 H locs hp9 hP hD hS => ?_)
              obtain ⟨rfl, rfl⟩ := hp9
              have hP : va_P D vwCl (MdW om xS xV xB xT xA xP xR cI 0 mS mSv (nI q) mBf (nI b) tl_194 al_194 pl_194 bs_194 lf_194 kAt kWl mRd kRm (gHx (gHx (gHx h4 ((hvW n P (-1) : Int32).toInt64)) (((mFu n P (fun _ => 0)).1 : Int32).toInt64)) ((mDear n P : Int32).toInt64))) H := hP
              have hD : va_D (wr_in (MdW om xS xV xB xT xA xP xR cI thr mS mSv (nI q) mBf (nI b) mTl mAl mPl kBs kLf kAt kWl mRd kRm hsh)) (MdW om xS xV xB xT xA xP xR cI 0 mS mSv (nI q) mBf (nI b) tl_194 al_194 pl_194 bs_194 lf_194 kAt kWl mRd kRm (gHx (gHx (gHx h4 ((hvW n P (-1) : Int32).toInt64)) (((mFu n P (fun _ => 0)).1 : Int32).toInt64)) ((mDear n P : Int32).toInt64))) := hD
              refine W.eq (g2 := F0 m 206 ls [.double (gShare n P), .ref om]) rfl ?_
              refine wr_callS (As := [.double (gShare n P)]) (rest := [.ref om]) ⟨hx, hb, hml, hown, hts⟩ (c_Jxe99ae_doubleToLongBits_ccdee l D (shOK_self (gShare_ok hn8 hbk))) (va_cwS 1 hts gX5_digest_Jxe99ae_doubleToLongBits_ccdee rfl rfl rfl (by decide +kernel) ⟨by decide, by decide⟩) hK hN hZ hP hD hS [] [] rfl (by decide) rfl rfl hl.1 rfl (Nat.le_of_ble_eq_true rfl) ⟨by decide, by decide⟩ dX5_digest_206 (fun v9 w9 H locs hp9 hP hD hS => ?_)
              obtain ⟨rfl, rfl⟩ := hp9
              have hP : va_P D vwCl (MdW om xS xV xB xT xA xP xR cI 0 mS mSv (nI q) mBf (nI b) tl_194 al_194 pl_194 bs_194 lf_194 kAt kWl mRd kRm (gHx (gHx (gHx h4 ((hvW n P (-1) : Int32).toInt64)) (((mFu n P (fun _ => 0)).1 : Int32).toInt64)) ((mDear n P : Int32).toInt64))) H := hP
              have hD : va_D (wr_in (MdW om xS xV xB xT xA xP xR cI thr mS mSv (nI q) mBf (nI b) mTl mAl mPl kBs kLf kAt kWl mRd kRm hsh)) (MdW om xS xV xB xT xA xP xR cI 0 mS mSv (nI q) mBf (nI b) tl_194 al_194 pl_194 bs_194 lf_194 kAt kWl mRd kRm (gHx (gHx (gHx h4 ((hvW n P (-1) : Int32).toInt64)) (((mFu n P (fun _ => 0)).1 : Int32).toInt64)) ((mDear n P : Int32).toInt64))) := hD
              refine W.eq (g2 := F0 m 209 ls [.long ((gShare n P).toInt64), .ref om]) rfl ?_
              refine wr_callV (As := [.long ((gShare n P).toInt64)]) (rest := []) ⟨hx, hb, hml, hown, hts⟩ (c_X5_hashes l D ((gShare n P).toInt64)) (cwV 1 hts gX5_digest_X5_hashes rfl rfl rfl (by decide +kernel) ⟨by decide, by decide⟩) hK hN hZ hP hD hS [0, 1, 2, 3, 4, 5, 6, 7] [0] rfl (by decide) rfl (q0 := 0) rfl rfl rfl hl.1 rfl (Nat.le_of_ble_eq_true rfl) ⟨by decide, by decide⟩ dX5_digest_209 (fun v9 w9 H locs hp9 hP hD hS => ?_)
              obtain ⟨rfl, rfl⟩ := hp9
              have hP : va_P D vwCl (MdW om xS xV xB xT xA xP xR cI 0 mS mSv (nI q) mBf (nI b) tl_194 al_194 pl_194 bs_194 lf_194 kAt kWl mRd kRm (gHx (gHx (gHx (gHx h4 ((hvW n P (-1) : Int32).toInt64)) (((mFu n P (fun _ => 0)).1 : Int32).toInt64)) ((mDear n P : Int32).toInt64)) ((gShare n P).toInt64))) H := hP
              have hD : va_D (wr_in (MdW om xS xV xB xT xA xP xR cI thr mS mSv (nI q) mBf (nI b) mTl mAl mPl kBs kLf kAt kWl mRd kRm hsh)) (MdW om xS xV xB xT xA xP xR cI 0 mS mSv (nI q) mBf (nI b) tl_194 al_194 pl_194 bs_194 lf_194 kAt kWl mRd kRm (gHx (gHx (gHx (gHx h4 ((hvW n P (-1) : Int32).toInt64)) (((mFu n P (fun _ => 0)).1 : Int32).toInt64)) ((mDear n P : Int32).toInt64)) ((gShare n P).toInt64))) := hD
              refine W.eq (g2 := F0 m 212 ls []) rfl ?_
              refine lv_aload_n hx hb dX5_digest_212 rfl (lv_at hl 0 rfl) ?_
              refine lv_aload_n hx hb dX5_digest_213 rfl (lv_at hl 0 rfl) ?_
              refine va_get (D := D) (ci := 5) (v := .int (nI b)) (C := RX5) (T := TX5) (N := 16) hx hb hts hinX5 hown hK hP 0 rfl rfl 5 (by decide) hw154 (fun _ h9 => h9) rfl dX5_digest_214 ?_
              refine lv_i2l (v := (nI b : Int32).toInt64) hx hb dX5_digest_217 rfl ?_
              refine wr_callV (As := [.long ((nI b : Int32).toInt64)]) (rest := []) ⟨hx, hb, hml, hown, hts⟩ (c_X5_hashes l D ((nI b : Int32).toInt64)) (cwV 1 hts gX5_digest_X5_hashes rfl rfl rfl (by decide +kernel) ⟨by decide, by decide⟩) hK hN hZ hP hD hS [0, 1, 2, 3, 4, 5, 6, 7] [0] rfl (by decide) rfl (q0 := 0) rfl rfl rfl hl.1 rfl (Nat.le_of_ble_eq_true rfl) ⟨by decide, by decide⟩ dX5_digest_218 (fun v9 w9 H locs hp9 hP hD hS => ?_)
              obtain ⟨rfl, rfl⟩ := hp9
              have hP : va_P D vwCl (MdW om xS xV xB xT xA xP xR cI 0 mS mSv (nI q) mBf (nI b) tl_194 al_194 pl_194 bs_194 lf_194 kAt kWl mRd kRm (gHx (gHx (gHx (gHx (gHx h4 ((hvW n P (-1) : Int32).toInt64)) (((mFu n P (fun _ => 0)).1 : Int32).toInt64)) ((mDear n P : Int32).toInt64)) ((gShare n P).toInt64)) ((nI b : Int32).toInt64))) H := hP
              have hD : va_D (wr_in (MdW om xS xV xB xT xA xP xR cI thr mS mSv (nI q) mBf (nI b) mTl mAl mPl kBs kLf kAt kWl mRd kRm hsh)) (MdW om xS xV xB xT xA xP xR cI 0 mS mSv (nI q) mBf (nI b) tl_194 al_194 pl_194 bs_194 lf_194 kAt kWl mRd kRm (gHx (gHx (gHx (gHx (gHx h4 ((hvW n P (-1) : Int32).toInt64)) (((mFu n P (fun _ => 0)).1 : Int32).toInt64)) ((mDear n P : Int32).toInt64)) ((gShare n P).toInt64)) ((nI b : Int32).toInt64))) := hD
              refine W.eq (g2 := F0 m 221 ls []) rfl ?_
              refine lv_iconst (v := 0) hx hb dX5_digest_221 (by decide) ?_
              refine lv_istore_n (lv' := [(1, .int 0), (0, .ref om)]) hx hb dX5_digest_222 rfl hl (by decide) rfl (fun ls hl => ?_)
              suffices loop223 : ∀ (k223 j : Nat) (h6 : Int64) (H : Heap) (locs : List Loc) (ls : Array Slot), j ≤ b → b + 1 ≤ j + k223 → (gLg b (hxB mBf) 0 (gHx (hxS n P h4) (nI b).toInt64) = gLg b (hxB mBf) j h6) → va_P D vwCl (MdW om xS xV xB xT xA xP xR cI 0 mS mSv (nI q) mBf (nI b) tl_194 al_194 pl_194 bs_194 lf_194 kAt kWl mRd kRm h6) H → va_D (wr_in (MdW om xS xV xB xT xA xP xR cI thr mS mSv (nI q) mBf (nI b) mTl mAl mPl kBs kLf kAt kWl mRd kRm hsh)) (MdW om xS xV xB xT xA xP xR cI 0 mS mSv (nI q) mBf (nI b) tl_194 al_194 pl_194 bs_194 lf_194 kAt kWl mRd kRm h6) → va_S (wr_in (MdW om xS xV xB xT xA xP xR cI thr mS mSv (nI q) mBf (nI b) mTl mAl mPl kBs kLf kAt kWl mRd kRm hsh)) s.heap H locs → lv_has ls 3 [(0, .ref om), (1, .int (nI j))] → wr_W p l e wsX5_digest ({ frames := 8, cells := 0, slots := 0, locals := 184 } : Room) s m [.ref om] below meth c D (MdW om xS xV xB xT xA xP xR cI thr mS mSv (nI q) mBf (nI b) mTl mAl mPl kBs kLf kAt kWl mRd kRm hsh) (fun v w9 => v = some (.long (gDig ((n, P), (q, hs), (b, mBf)))) ∧ ∃ (al9 tl9 : Nat → Int32) (lf9 bs9 : Int32) (pl9 : Nat → Int32) (hsh9 : Int64), w9 = MdW om xS xV xB xT xA xP xR cI 0 mS mSv (nI q) mBf (nI b) tl9 al9 pl9 bs9 lf9 kAt kWl mRd kRm hsh9) H locs (F0 m 223 ls []) from
                loop223 (b + 1) 0 (gHx (gHx (gHx (gHx (gHx h4 ((hvW n P (-1) : Int32).toInt64)) (((mFu n P (fun _ => 0)).1 : Int32).toInt64)) ((mDear n P : Int32).toInt64)) ((gShare n P).toInt64)) ((nI b : Int32).toInt64)) H locs ls (by omega) (by omega) (by rfl) hP hD hS (lv_sub hl [1, 0] rfl)
              intro k223
              induction k223 with
              | zero => intro j h6 H locs ls h1 h2; exact absurd h2 (by omega)
              | succ k223 ih223 =>
                intro j h6 H locs ls hle223 hlt223 inv223 hP hD hS hl
                refine lv_iload_n hx hb dX5_digest_223 rfl (lv_at hl 1 rfl) ?_
                refine lv_aload_n hx hb dX5_digest_224 rfl (lv_at hl 0 rfl) ?_
                refine va_get (D := D) (ci := 5) (v := .int (nI b)) (C := RX5) (T := TX5) (N := 16) hx hb hts hinX5 hown hK hP 0 rfl rfl 5 (by decide) hw154 (fun _ h9 => h9) rfl dX5_digest_225 ?_
                refine rd_icmp_ge_n (a := j) (b := b) (tgt := 248) (by omega) (by omega) hx hb dX5_digest_228 (by decide) (fun c_228 => ?_) (fun c_228 => ?_)
                · have c_228n := Nat.not_lt.mpr c_228
                  refine lv_aload_n hx hb dX5_digest_248 rfl (lv_at hl 0 rfl) ?_
                  refine va_get (D := D) (ci := 5) (v := .long h6) (C := RX5) (T := TX5) (N := 16) hx hb hts hinX5 hown hK hP 0 rfl rfl 15 (by decide) hw231 (fun _ h9 => h9) rfl dX5_digest_249 ?_
                  exact wr_lret hx hb hr hlocks hP hS rfl dX5_digest_252 (by exact ⟨by unfold gDig; dsimp only; rw [inv14, gLg_end (n := 9) (by omega), inv38, gLg_end c_45, inv111, gLg_end c_118, inv223, gLg_end c_228], _, _, _, _, _, _, rfl⟩)
                · have c_228n := Nat.not_le.mpr c_228
                  refine lv_aload_n hx hb dX5_digest_231 rfl (lv_at hl 0 rfl) ?_
                  refine lv_aload_n hx hb dX5_digest_232 rfl (lv_at hl 0 rfl) ?_
                  refine va_get (D := D) (ci := 5) (v := .ref xB) (C := RX5) (T := TX5) (N := 16) hx hb hts hinX5 hown hK hP 0 rfl rfl 4 (by decide) hw16 (fun _ h9 => h9) rfl dX5_digest_233 ?_
                  refine lv_iload_n hx hb dX5_digest_236 rfl (lv_at hl 1 rfl) ?_
                  refine rd_ald (q0 := 3) (t0 := 0) (j := j) (v := mBf j) hx hb hK hP rfl rfl (rfl) (by omega) (by decide) (rfl) dX5_digest_237 ?_
                  refine lv_i2l (v := (mBf j : Int32).toInt64) hx hb dX5_digest_238 rfl ?_
                  refine wr_callV (As := [.long ((mBf j : Int32).toInt64)]) (rest := []) ⟨hx, hb, hml, hown, hts⟩ (c_X5_hashes l D ((mBf j : Int32).toInt64)) (cwV 1 hts gX5_digest_X5_hashes rfl rfl rfl (by decide +kernel) ⟨by decide, by decide⟩) hK hN hZ hP hD hS [0, 1, 2, 3, 4, 5, 6, 7] [0] rfl (by decide) rfl (q0 := 0) rfl rfl rfl hl.1 rfl (Nat.le_of_ble_eq_true rfl) ⟨by decide, by decide⟩ dX5_digest_239 (fun v9 w9 H locs hp9 hP hD hS => ?_)
                  obtain ⟨rfl, rfl⟩ := hp9
                  have hP : va_P D vwCl (MdW om xS xV xB xT xA xP xR cI 0 mS mSv (nI q) mBf (nI b) tl_194 al_194 pl_194 bs_194 lf_194 kAt kWl mRd kRm (gHx h6 ((mBf j : Int32).toInt64))) H := hP
                  have hD : va_D (wr_in (MdW om xS xV xB xT xA xP xR cI thr mS mSv (nI q) mBf (nI b) mTl mAl mPl kBs kLf kAt kWl mRd kRm hsh)) (MdW om xS xV xB xT xA xP xR cI 0 mS mSv (nI q) mBf (nI b) tl_194 al_194 pl_194 bs_194 lf_194 kAt kWl mRd kRm (gHx h6 ((mBf j : Int32).toInt64))) := hD
                  refine W.eq (g2 := F0 m 242 ls []) rfl ?_
                  refine lv_iinc (v := nI (j + 1)) (lv' := [(1, .int (nI (j + 1))), (0, .ref om)]) hx hb dX5_digest_242 hl (k := 1) rfl (nI_add j 1) (by decide) rfl (fun ls hl => ?_)
                  refine lv_goto (tgt := 223) hx hb dX5_digest_245 (by decide) ?_
                  exact ih223 (j + 1) (gHx h6 ((mBf j : Int32).toInt64)) H locs ls (by omega) (by omega) (by rw [inv223, gLg_step c_228]; rfl) hP hD hS (lv_sub hl [1, 0] rfl)
            · have c_118n := Nat.not_le.mpr c_118
              refine lv_iload_n hx hb dX5_digest_121 rfl (lv_at hl 1 rfl) ?_
              refine lv_iconst (v := 1) hx hb dX5_digest_122 (by decide) ?_
              refine lv_iadd hx hb dX5_digest_123 ?_
              refine lv_asi (y := nI (i + 1)) (nI_add i 1) ?_
              refine lv_istore_n (lv' := [(2, .int (nI (i + 1))), (0, .ref om), (1, .int (nI i))]) hx hb dX5_digest_124 rfl hl (by decide) rfl (fun ls hl => ?_)
              suffices loop125 : ∀ (k125 j : Nat) (h5 : Int64) (H : Heap) (locs : List Loc) (ls : Array Slot), j ≤ n → n + 1 ≤ j + k125 → (gLg n (hxO n P) 0 h2 = gLg n (hxO n P) (i + 1) (gLg n (hxQ P i) j h5)) → va_P D vwCl (MdW om xS xV xB xT xA xP xR cI 0 mS mSv (nI q) mBf (nI b) j0 j1 j2 j3 j4 kAt kWl mRd kRm h5) H → va_D (wr_in (MdW om xS xV xB xT xA xP xR cI thr mS mSv (nI q) mBf (nI b) mTl mAl mPl kBs kLf kAt kWl mRd kRm hsh)) (MdW om xS xV xB xT xA xP xR cI 0 mS mSv (nI q) mBf (nI b) j0 j1 j2 j3 j4 kAt kWl mRd kRm h5) → va_S (wr_in (MdW om xS xV xB xT xA xP xR cI thr mS mSv (nI q) mBf (nI b) mTl mAl mPl kBs kLf kAt kWl mRd kRm hsh)) s.heap H locs → lv_has ls 3 [(0, .ref om), (1, .int (nI i)), (2, .int (nI j))] → wr_W p l e wsX5_digest ({ frames := 8, cells := 0, slots := 0, locals := 184 } : Room) s m [.ref om] below meth c D (MdW om xS xV xB xT xA xP xR cI thr mS mSv (nI q) mBf (nI b) mTl mAl mPl kBs kLf kAt kWl mRd kRm hsh) (fun v w9 => v = some (.long (gDig ((n, P), (q, hs), (b, mBf)))) ∧ ∃ (al9 tl9 : Nat → Int32) (lf9 bs9 : Int32) (pl9 : Nat → Int32) (hsh9 : Int64), w9 = MdW om xS xV xB xT xA xP xR cI 0 mS mSv (nI q) mBf (nI b) tl9 al9 pl9 bs9 lf9 kAt kWl mRd kRm hsh9) H locs (F0 m 125 ls []) from
                loop125 (n + 1) (i + 1) h4 H locs ls (by omega) (by omega) (by rw [inv111, gLg_step c_118]; rfl) hP hD hS (lv_sub hl [1, 2, 0] rfl)
              intro k125
              induction k125 with
              | zero => intro j h5 H locs ls h1 h2; exact absurd h2 (by omega)
              | succ k125 ih125 =>
                intro j h5 H locs ls hle125 hlt125 inv125 hP hD hS hl
                refine lv_iload_n hx hb dX5_digest_125 rfl (lv_at hl 2 rfl) ?_
                refine lv_aload_n hx hb dX5_digest_126 rfl (lv_at hl 0 rfl) ?_
                refine va_get (D := D) (ci := 5) (v := .ref xS) (C := RX5) (T := TX5) (N := 16) hx hb hts hinX5 hown hK hP 0 rfl rfl 1 (by decide) hw7 (fun _ h9 => h9) rfl dX5_digest_127 ?_
                refine lv_iconst (v := 0) hx hb dX5_digest_130 (by decide) ?_
                refine rd_ald (q0 := 1) (t0 := 0) (j := 0) (v := nI n) hx hb hK hP rfl rfl (rfl) (by omega) (by decide) (hQ.1) dX5_digest_131 ?_
                refine rd_icmp_ge_n (a := j) (b := n) (tgt := 167) (by omega) (by omega) hx hb dX5_digest_132 (by decide) (fun c_132 => ?_) (fun c_132 => ?_)
                · have c_132n := Nat.not_lt.mpr c_132
                  refine lv_iinc (v := nI (i + 1)) (lv' := [(1, .int (nI (i + 1))), (0, .ref om), (2, .int (nI j))]) hx hb dX5_digest_167 hl (k := 1) rfl (nI_add i 1) (by decide) rfl (fun ls hl => ?_)
                  refine lv_goto (tgt := 111) hx hb dX5_digest_170 (by decide) ?_
                  exact ih111 (i + 1) h5 H locs ls (by omega) (by omega) (by rw [inv125, gLg_end (n := n) (f := hxQ P i) c_132]) hP hD hS (lv_sub hl [1, 0] rfl)
                · have c_132n := Nat.not_le.mpr c_132
                  refine lv_aload_n hx hb dX5_digest_135 rfl (lv_at hl 0 rfl) ?_
                  refine lv_aload_n hx hb dX5_digest_136 rfl (lv_at hl 0 rfl) ?_
                  refine lv_iload_n hx hb dX5_digest_137 rfl (lv_at hl 1 rfl) ?_
                  refine lv_iconst (v := 0) hx hb dX5_digest_138 (by decide) ?_
                  refine lv_iload_n hx hb dX5_digest_139 rfl (lv_at hl 2 rfl) ?_
                  refine lv_iconst (v := 0) hx hb dX5_digest_140 (by decide) ?_
                  have hmd : md_in (MdW om xS xV xB xT xA xP xR cI 0 mS mSv (nI q) mBf (nI b) j0 j1 j2 j3 j4 kAt kWl mRd kRm h5) [(cI, .int)] om n P := ⟨0, 1, 0, xS, cI, mS, _, rfl, rfl, rfl, rfl, hn8, hQ.1, hQ.2, hbk⟩
                  refine rd_callV (As := [.int (nI i), .int 0, .int (nI j), .int 0]) (rest := [.ref om]) ⟨hx, hb, hml, hown, hts⟩ (c_X5_common l D hmd c_118 (Or.inl rfl) c_132 (Or.inl rfl)) (cwV 4 hts gX5_digest_X5_common rfl rfl rfl (by decide +kernel) ⟨by decide, by decide⟩) hK hN hP (q0 := 0) rfl rfl rfl hl.1 rfl (Nat.le_of_ble_eq_true rfl) ⟨by decide, by decide⟩ dX5_digest_141 ?_
                  refine lv_i2l (v := (gSh P i 0 j 0 : Int32).toInt64) hx hb dX5_digest_144 rfl ?_
                  refine wr_callV (As := [.long ((gSh P i 0 j 0 : Int32).toInt64)]) (rest := []) ⟨hx, hb, hml, hown, hts⟩ (c_X5_hashes l D ((gSh P i 0 j 0 : Int32).toInt64)) (cwV 1 hts gX5_digest_X5_hashes rfl rfl rfl (by decide +kernel) ⟨by decide, by decide⟩) hK hN hZ hP hD hS [0, 1, 2, 3, 4, 5, 6, 7] [0] rfl (by decide) rfl (q0 := 0) rfl rfl rfl hl.1 rfl (Nat.le_of_ble_eq_true rfl) ⟨by decide, by decide⟩ dX5_digest_145 (fun v9 w9 H locs hp9 hP hD hS => ?_)
                  obtain ⟨rfl, rfl⟩ := hp9
                  have hP : va_P D vwCl (MdW om xS xV xB xT xA xP xR cI 0 mS mSv (nI q) mBf (nI b) j0 j1 j2 j3 j4 kAt kWl mRd kRm (gHx h5 ((gSh P i 0 j 0 : Int32).toInt64))) H := hP
                  have hD : va_D (wr_in (MdW om xS xV xB xT xA xP xR cI thr mS mSv (nI q) mBf (nI b) mTl mAl mPl kBs kLf kAt kWl mRd kRm hsh)) (MdW om xS xV xB xT xA xP xR cI 0 mS mSv (nI q) mBf (nI b) j0 j1 j2 j3 j4 kAt kWl mRd kRm (gHx h5 ((gSh P i 0 j 0 : Int32).toInt64))) := hD
                  refine W.eq (g2 := F0 m 148 ls []) rfl ?_
                  refine lv_aload_n hx hb dX5_digest_148 rfl (lv_at hl 0 rfl) ?_
                  refine lv_aload_n hx hb dX5_digest_149 rfl (lv_at hl 0 rfl) ?_
                  refine lv_iload_n hx hb dX5_digest_150 rfl (lv_at hl 1 rfl) ?_
                  refine lv_iconst (v := 0) hx hb dX5_digest_151 (by decide) ?_
                  refine lv_iload_n hx hb dX5_digest_152 rfl (lv_at hl 2 rfl) ?_
                  refine lv_iconst (v := 1) hx hb dX5_digest_153 (by decide) ?_
                  have hmd : md_in (MdW om xS xV xB xT xA xP xR cI 0 mS mSv (nI q) mBf (nI b) j0 j1 j2 j3 j4 kAt kWl mRd kRm (gHx h5 ((gSh P i 0 j 0 : Int32).toInt64))) [(cI, .int)] om n P := ⟨0, 1, 0, xS, cI, mS, _, rfl, rfl, rfl, rfl, hn8, hQ.1, hQ.2, hbk⟩
                  refine rd_callV (As := [.int (nI i), .int 0, .int (nI j), .int 1]) (rest := [.ref om]) ⟨hx, hb, hml, hown, hts⟩ (c_X5_common l D hmd c_118 (Or.inl rfl) c_132 (Or.inr (Or.inl rfl))) (cwV 4 hts gX5_digest_X5_common rfl rfl rfl (by decide +kernel) ⟨by decide, by decide⟩) hK hN hP (q0 := 0) rfl rfl rfl hl.1 rfl (Nat.le_of_ble_eq_true rfl) ⟨by decide, by decide⟩ dX5_digest_154 ?_
                  refine lv_i2l (v := (gSh P i 0 j 1 : Int32).toInt64) hx hb dX5_digest_157 rfl ?_
                  refine wr_callV (As := [.long ((gSh P i 0 j 1 : Int32).toInt64)]) (rest := []) ⟨hx, hb, hml, hown, hts⟩ (c_X5_hashes l D ((gSh P i 0 j 1 : Int32).toInt64)) (cwV 1 hts gX5_digest_X5_hashes rfl rfl rfl (by decide +kernel) ⟨by decide, by decide⟩) hK hN hZ hP hD hS [0, 1, 2, 3, 4, 5, 6, 7] [0] rfl (by decide) rfl (q0 := 0) rfl rfl rfl hl.1 rfl (Nat.le_of_ble_eq_true rfl) ⟨by decide, by decide⟩ dX5_digest_158 (fun v9 w9 H locs hp9 hP hD hS => ?_)
                  obtain ⟨rfl, rfl⟩ := hp9
                  have hP : va_P D vwCl (MdW om xS xV xB xT xA xP xR cI 0 mS mSv (nI q) mBf (nI b) j0 j1 j2 j3 j4 kAt kWl mRd kRm (gHx (gHx h5 ((gSh P i 0 j 0 : Int32).toInt64)) ((gSh P i 0 j 1 : Int32).toInt64))) H := hP
                  have hD : va_D (wr_in (MdW om xS xV xB xT xA xP xR cI thr mS mSv (nI q) mBf (nI b) mTl mAl mPl kBs kLf kAt kWl mRd kRm hsh)) (MdW om xS xV xB xT xA xP xR cI 0 mS mSv (nI q) mBf (nI b) j0 j1 j2 j3 j4 kAt kWl mRd kRm (gHx (gHx h5 ((gSh P i 0 j 0 : Int32).toInt64)) ((gSh P i 0 j 1 : Int32).toInt64))) := hD
                  refine W.eq (g2 := F0 m 161 ls []) rfl ?_
                  refine lv_iinc (v := nI (j + 1)) (lv' := [(2, .int (nI (j + 1))), (0, .ref om), (1, .int (nI i))]) hx hb dX5_digest_161 hl (k := 2) rfl (nI_add j 1) (by decide) rfl (fun ls hl => ?_)
                  refine lv_goto (tgt := 125) hx hb dX5_digest_164 (by decide) ?_
                  exact ih125 (j + 1) (gHx (gHx h5 ((gSh P i 0 j 0 : Int32).toInt64)) ((gSh P i 0 j 1 : Int32).toInt64)) H locs ls (by omega) (by omega) (by rw [inv125, gLg_step (n := n) (f := hxQ P i) c_132]; rfl) hP hD hS (lv_sub hl [1, 2, 0] rfl)
        · have c_45n := Nat.not_le.mpr c_45
          refine lv_iconst (v := 0) hx hb dX5_digest_48 (by decide) ?_
          refine lv_istore_n (lv' := [(2, .int 0), (0, .ref om), (1, .int (nI i))]) hx hb dX5_digest_49 rfl hl (by decide) rfl (fun ls hl => ?_)
          suffices loop50 : ∀ (k50 k : Nat) (h3 : Int64) (H : Heap) (locs : List Loc) (ls : Array Slot), k ≤ 9 → 9 + 1 ≤ k + k50 → (gLg 9 (hxR n P i) 0 h2 = gLg 9 (hxR n P i) k h3) → va_P D vwCl (MdW om xS xV xB xT xA xP xR cI 0 mS mSv (nI q) mBf (nI b) j0 j1 j2 j3 j4 kAt kWl mRd kRm h3) H → va_D (wr_in (MdW om xS xV xB xT xA xP xR cI thr mS mSv (nI q) mBf (nI b) mTl mAl mPl kBs kLf kAt kWl mRd kRm hsh)) (MdW om xS xV xB xT xA xP xR cI 0 mS mSv (nI q) mBf (nI b) j0 j1 j2 j3 j4 kAt kWl mRd kRm h3) → va_S (wr_in (MdW om xS xV xB xT xA xP xR cI thr mS mSv (nI q) mBf (nI b) mTl mAl mPl kBs kLf kAt kWl mRd kRm hsh)) s.heap H locs → lv_has ls 3 [(0, .ref om), (1, .int (nI i)), (2, .int (nI k))] → wr_W p l e wsX5_digest ({ frames := 8, cells := 0, slots := 0, locals := 184 } : Room) s m [.ref om] below meth c D (MdW om xS xV xB xT xA xP xR cI thr mS mSv (nI q) mBf (nI b) mTl mAl mPl kBs kLf kAt kWl mRd kRm hsh) (fun v w9 => v = some (.long (gDig ((n, P), (q, hs), (b, mBf)))) ∧ ∃ (al9 tl9 : Nat → Int32) (lf9 bs9 : Int32) (pl9 : Nat → Int32) (hsh9 : Int64), w9 = MdW om xS xV xB xT xA xP xR cI 0 mS mSv (nI q) mBf (nI b) tl9 al9 pl9 bs9 lf9 kAt kWl mRd kRm hsh9) H locs (F0 m 50 ls []) from
            loop50 (9 + 1) 0 h2 H locs ls (by omega) (by omega) (by rfl) hP hD hS (lv_sub hl [1, 2, 0] rfl)
          intro k50
          induction k50 with
          | zero => intro k h3 H locs ls h1 h2; exact absurd h2 (by omega)
          | succ k50 ih50 =>
            intro k h3 H locs ls hle50 hlt50 inv50 hP hD hS hl
            refine lv_iload_n hx hb dX5_digest_50 rfl (lv_at hl 2 rfl) ?_
            refine lv_bipush (v := 9) hx hb dX5_digest_51 (by decide) ?_
            refine rd_icmp_ge_n (a := k) (b := 9) (tgt := 73) (by omega) (by omega) hx hb dX5_digest_53 (by decide) (fun c_53 => ?_) (fun c_53 => ?_)
            · have c_53n := Nat.not_lt.mpr c_53
              refine lv_aload_n hx hb dX5_digest_73 rfl (lv_at hl 0 rfl) ?_
              refine lv_aload_n hx hb dX5_digest_74 rfl (lv_at hl 0 rfl) ?_
              refine lv_iload_n hx hb dX5_digest_75 rfl (lv_at hl 1 rfl) ?_
              refine wr_callV (As := [.int (nI i)]) (rest := [.ref om]) ⟨hx, hb, hml, hown, hts⟩ (c_X5_bestOf2 (P := P) l D (q := q) hq6 hn8 hQ hbk c_45) (cwV 1 hts gX5_digest_X5_bestOf rfl rfl rfl (by decide +kernel) ⟨by decide, by decide⟩) hK hN hZ hP hD hS [0, 1, 2, 3, 4, 5, 6, 7] [0] rfl (by decide) rfl (q0 := 0) rfl rfl rfl hl.1 rfl (Nat.le_of_ble_eq_true rfl) ⟨by decide, by decide⟩ dX5_digest_76 (fun v9 w9 H locs hp9 hP hD hS => ?_)
              obtain ⟨rfl, al_76, tl_76, lf_76, bs_76, pl_76, rfl⟩ := hp9
              have hP : va_P D vwCl (MdW om xS xV xB xT xA xP xR cI 0 mS mSv (nI q) mBf (nI b) tl_76 al_76 pl_76 bs_76 lf_76 kAt kWl mRd kRm h3) H := hP
              have hD : va_D (wr_in (MdW om xS xV xB xT xA xP xR cI thr mS mSv (nI q) mBf (nI b) mTl mAl mPl kBs kLf kAt kWl mRd kRm hsh)) (MdW om xS xV xB xT xA xP xR cI 0 mS mSv (nI q) mBf (nI b) tl_76 al_76 pl_76 bs_76 lf_76 kAt kWl mRd kRm h3) := hD
              refine W.eq (g2 := F0 m 79 ls [.int (lay ((mHv n P (-1) (fun _ => 0)).2 i)), .ref om]) rfl ?_
              refine lv_i2l (v := (lay ((mHv n P (-1) (fun _ => 0)).2 i) : Int32).toInt64) hx hb dX5_digest_79 rfl ?_
              refine wr_callV (As := [.long ((lay ((mHv n P (-1) (fun _ => 0)).2 i) : Int32).toInt64)]) (rest := []) ⟨hx, hb, hml, hown, hts⟩ (c_X5_hashes l D ((lay ((mHv n P (-1) (fun _ => 0)).2 i) : Int32).toInt64)) (cwV 1 hts gX5_digest_X5_hashes rfl rfl rfl (by decide +kernel) ⟨by decide, by decide⟩) hK hN hZ hP hD hS [0, 1, 2, 3, 4, 5, 6, 7] [0] rfl (by decide) rfl (q0 := 0) rfl rfl rfl hl.1 rfl (Nat.le_of_ble_eq_true rfl) ⟨by decide, by decide⟩ dX5_digest_80 (fun v9 w9 H locs hp9 hP hD hS => ?_)
              obtain ⟨rfl, rfl⟩ := hp9
              have hP : va_P D vwCl (MdW om xS xV xB xT xA xP xR cI 0 mS mSv (nI q) mBf (nI b) tl_76 al_76 pl_76 bs_76 lf_76 kAt kWl mRd kRm (gHx h3 ((lay ((mHv n P (-1) (fun _ => 0)).2 i) : Int32).toInt64))) H := hP
              have hD : va_D (wr_in (MdW om xS xV xB xT xA xP xR cI thr mS mSv (nI q) mBf (nI b) mTl mAl mPl kBs kLf kAt kWl mRd kRm hsh)) (MdW om xS xV xB xT xA xP xR cI 0 mS mSv (nI q) mBf (nI b) tl_76 al_76 pl_76 bs_76 lf_76 kAt kWl mRd kRm (gHx h3 ((lay ((mHv n P (-1) (fun _ => 0)).2 i) : Int32).toInt64))) := hD
              refine W.eq (g2 := F0 m 83 ls []) rfl ?_
              refine lv_aload_n hx hb dX5_digest_83 rfl (lv_at hl 0 rfl) ?_
              refine lv_aload_n hx hb dX5_digest_84 rfl (lv_at hl 0 rfl) ?_
              refine lv_iload_n hx hb dX5_digest_85 rfl (lv_at hl 1 rfl) ?_
              refine wr_callV (As := [.int (nI i)]) (rest := [.ref om]) ⟨hx, hb, hml, hown, hts⟩ (c_X5_heaviest2 (P := P) l D (q := q) hq6 hn8 hQ hbk (nI i)) (cwV 1 hts gX5_digest_X5_heaviest rfl rfl rfl (by decide +kernel) ⟨by decide, by decide⟩) hK hN hZ hP hD hS [0, 1, 2, 3, 4, 5, 6, 7] [0] rfl (by decide) rfl (q0 := 0) rfl rfl rfl hl.1 rfl (Nat.le_of_ble_eq_true rfl) ⟨by decide, by decide⟩ dX5_digest_86 (fun v9 w9 H locs hp9 hP hD hS => ?_)
              obtain ⟨rfl, al_86, tl_86, lf_86, bs_86, pl_86, rfl⟩ := hp9
              have hP : va_P D vwCl (MdW om xS xV xB xT xA xP xR cI 0 mS mSv (nI q) mBf (nI b) tl_86 al_86 pl_86 bs_86 lf_86 kAt kWl mRd kRm (gHx h3 ((lay ((mHv n P (-1) (fun _ => 0)).2 i) : Int32).toInt64))) H := hP
              have hD : va_D (wr_in (MdW om xS xV xB xT xA xP xR cI thr mS mSv (nI q) mBf (nI b) mTl mAl mPl kBs kLf kAt kWl mRd kRm hsh)) (MdW om xS xV xB xT xA xP xR cI 0 mS mSv (nI q) mBf (nI b) tl_86 al_86 pl_86 bs_86 lf_86 kAt kWl mRd kRm (gHx h3 ((lay ((mHv n P (-1) (fun _ => 0)).2 i) : Int32).toInt64))) := hD
              refine W.eq (g2 := F0 m 89 ls [.int (hvW n P (nI i)), .ref om]) rfl ?_
              refine lv_i2l (v := (hvW n P (nI i) : Int32).toInt64) hx hb dX5_digest_89 rfl ?_
              refine wr_callV (As := [.long ((hvW n P (nI i) : Int32).toInt64)]) (rest := []) ⟨hx, hb, hml, hown, hts⟩ (c_X5_hashes l D ((hvW n P (nI i) : Int32).toInt64)) (cwV 1 hts gX5_digest_X5_hashes rfl rfl rfl (by decide +kernel) ⟨by decide, by decide⟩) hK hN hZ hP hD hS [0, 1, 2, 3, 4, 5, 6, 7] [0] rfl (by decide) rfl (q0 := 0) rfl rfl rfl hl.1 rfl (Nat.le_of_ble_eq_true rfl) ⟨by decide, by decide⟩ dX5_digest_90 (fun v9 w9 H locs hp9 hP hD hS => ?_)
              obtain ⟨rfl, rfl⟩ := hp9
              have hP : va_P D vwCl (MdW om xS xV xB xT xA xP xR cI 0 mS mSv (nI q) mBf (nI b) tl_86 al_86 pl_86 bs_86 lf_86 kAt kWl mRd kRm (gHx (gHx h3 ((lay ((mHv n P (-1) (fun _ => 0)).2 i) : Int32).toInt64)) ((hvW n P (nI i) : Int32).toInt64))) H := hP
              have hD : va_D (wr_in (MdW om xS xV xB xT xA xP xR cI thr mS mSv (nI q) mBf (nI b) mTl mAl mPl kBs kLf kAt kWl mRd kRm hsh)) (MdW om xS xV xB xT xA xP xR cI 0 mS mSv (nI q) mBf (nI b) tl_86 al_86 pl_86 bs_86 lf_86 kAt kWl mRd kRm (gHx (gHx h3 ((lay ((mHv n P (-1) (fun _ => 0)).2 i) : Int32).toInt64)) ((hvW n P (nI i) : Int32).toInt64))) := hD
              refine W.eq (g2 := F0 m 93 ls []) rfl ?_
              refine lv_aload_n hx hb dX5_digest_93 rfl (lv_at hl 0 rfl) ?_
              refine lv_aload_n hx hb dX5_digest_94 rfl (lv_at hl 0 rfl) ?_
              refine lv_iload_n hx hb dX5_digest_95 rfl (lv_at hl 1 rfl) ?_
              refine wr_callV (As := [.int (nI i)]) (rest := [.ref om]) ⟨hx, hb, hml, hown, hts⟩ (c_X5_makesRoom2 (P := P) l D (q := q) hq6 hn8 hQ hbk c_45) (cwV 1 hts gX5_digest_X5_makesRoom rfl rfl rfl (by decide +kernel) ⟨by decide, by decide⟩) hK hN hZ hP hD hS [0, 1, 2, 3, 4, 5, 6, 7] [0] rfl (by decide) rfl (q0 := 0) rfl rfl rfl hl.1 rfl (Nat.le_of_ble_eq_true rfl) ⟨by decide, by decide⟩ dX5_digest_96 (fun v9 w9 H locs hp9 hP hD hS => ?_)
              obtain ⟨rfl, al_96, tl_96, lf_96, bs_96, pl_96, rfl⟩ := hp9
              have hP : va_P D vwCl (MdW om xS xV xB xT xA xP xR cI 0 mS mSv (nI q) mBf (nI b) tl_96 al_96 pl_96 bs_96 lf_96 kAt kWl mRd kRm (gHx (gHx h3 ((lay ((mHv n P (-1) (fun _ => 0)).2 i) : Int32).toInt64)) ((hvW n P (nI i) : Int32).toInt64))) H := hP
              have hD : va_D (wr_in (MdW om xS xV xB xT xA xP xR cI thr mS mSv (nI q) mBf (nI b) mTl mAl mPl kBs kLf kAt kWl mRd kRm hsh)) (MdW om xS xV xB xT xA xP xR cI 0 mS mSv (nI q) mBf (nI b) tl_96 al_96 pl_96 bs_96 lf_96 kAt kWl mRd kRm (gHx (gHx h3 ((lay ((mHv n P (-1) (fun _ => 0)).2 i) : Int32).toInt64)) ((hvW n P (nI i) : Int32).toInt64))) := hD
              refine W.eq (g2 := F0 m 99 ls [.int (mMr n P i (fun _ => 0)), .ref om]) rfl ?_
              refine lv_i2l (v := (mMr n P i (fun _ => 0) : Int32).toInt64) hx hb dX5_digest_99 rfl ?_
              refine wr_callV (As := [.long ((mMr n P i (fun _ => 0) : Int32).toInt64)]) (rest := []) ⟨hx, hb, hml, hown, hts⟩ (c_X5_hashes l D ((mMr n P i (fun _ => 0) : Int32).toInt64)) (cwV 1 hts gX5_digest_X5_hashes rfl rfl rfl (by decide +kernel) ⟨by decide, by decide⟩) hK hN hZ hP hD hS [0, 1, 2, 3, 4, 5, 6, 7] [0] rfl (by decide) rfl (q0 := 0) rfl rfl rfl hl.1 rfl (Nat.le_of_ble_eq_true rfl) ⟨by decide, by decide⟩ dX5_digest_100 (fun v9 w9 H locs hp9 hP hD hS => ?_)
              obtain ⟨rfl, rfl⟩ := hp9
              have hP : va_P D vwCl (MdW om xS xV xB xT xA xP xR cI 0 mS mSv (nI q) mBf (nI b) tl_96 al_96 pl_96 bs_96 lf_96 kAt kWl mRd kRm (gHx (gHx (gHx h3 ((lay ((mHv n P (-1) (fun _ => 0)).2 i) : Int32).toInt64)) ((hvW n P (nI i) : Int32).toInt64)) ((mMr n P i (fun _ => 0) : Int32).toInt64))) H := hP
              have hD : va_D (wr_in (MdW om xS xV xB xT xA xP xR cI thr mS mSv (nI q) mBf (nI b) mTl mAl mPl kBs kLf kAt kWl mRd kRm hsh)) (MdW om xS xV xB xT xA xP xR cI 0 mS mSv (nI q) mBf (nI b) tl_96 al_96 pl_96 bs_96 lf_96 kAt kWl mRd kRm (gHx (gHx (gHx h3 ((lay ((mHv n P (-1) (fun _ => 0)).2 i) : Int32).toInt64)) ((hvW n P (nI i) : Int32).toInt64)) ((mMr n P i (fun _ => 0) : Int32).toInt64))) := hD
              refine W.eq (g2 := F0 m 103 ls []) rfl ?_
              refine lv_iinc (v := nI (i + 1)) (lv' := [(1, .int (nI (i + 1))), (0, .ref om), (2, .int (nI k))]) hx hb dX5_digest_103 hl (k := 1) rfl (nI_add i 1) (by decide) rfl (fun ls hl => ?_)
              refine lv_goto (tgt := 38) hx hb dX5_digest_106 (by decide) ?_
              exact ih38 (i + 1) tl_96 al_96 pl_96 bs_96 lf_96 (gHx (gHx (gHx h3 ((lay ((mHv n P (-1) (fun _ => 0)).2 i) : Int32).toInt64)) ((hvW n P (nI i) : Int32).toInt64)) ((mMr n P i (fun _ => 0) : Int32).toInt64)) H locs ls (by omega) (by omega) (by rw [inv38, gLg_step c_45, hxP, inv50, gLg_end (n := 9) (by omega)]) hP hD hS (lv_sub hl [1, 0] rfl)
            · have c_53n := Nat.not_le.mpr c_53
              refine lv_aload_n hx hb dX5_digest_56 rfl (lv_at hl 0 rfl) ?_
              refine lv_aload_n hx hb dX5_digest_57 rfl (lv_at hl 0 rfl) ?_
              refine lv_iload_n hx hb dX5_digest_58 rfl (lv_at hl 1 rfl) ?_
              refine lv_iload_n hx hb dX5_digest_59 rfl (lv_at hl 2 rfl) ?_
              have hmd : md_in (MdW om xS xV xB xT xA xP xR cI 0 mS mSv (nI q) mBf (nI b) j0 j1 j2 j3 j4 kAt kWl mRd kRm h3) [(cI, .int)] om n P := ⟨0, 1, 0, xS, cI, mS, _, rfl, rfl, rfl, rfl, hn8, hQ.1, hQ.2, hbk⟩
              refine rd_callV (As := [.int (nI i), .int (nI k)]) (rest := [.ref om]) ⟨hx, hb, hml, hown, hts⟩ (c_X5_tellsPoint (k := k) l D hmd c_45 (by omega)) (cwV 2 hts gX5_digest_X5_tellsPoint rfl rfl rfl (by decide +kernel) ⟨by decide, by decide⟩) hK hN hP (q0 := 0) rfl rfl rfl hl.1 rfl (Nat.le_of_ble_eq_true rfl) ⟨by decide, by decide⟩ dX5_digest_60 ?_
              refine lv_i2l (v := (gPr n P i k : Int32).toInt64) hx hb dX5_digest_63 rfl ?_
              refine wr_callV (As := [.long ((gPr n P i k : Int32).toInt64)]) (rest := []) ⟨hx, hb, hml, hown, hts⟩ (c_X5_hashes l D ((gPr n P i k : Int32).toInt64)) (cwV 1 hts gX5_digest_X5_hashes rfl rfl rfl (by decide +kernel) ⟨by decide, by decide⟩) hK hN hZ hP hD hS [0, 1, 2, 3, 4, 5, 6, 7] [0] rfl (by decide) rfl (q0 := 0) rfl rfl rfl hl.1 rfl (Nat.le_of_ble_eq_true rfl) ⟨by decide, by decide⟩ dX5_digest_64 (fun v9 w9 H locs hp9 hP hD hS => ?_)
              obtain ⟨rfl, rfl⟩ := hp9
              have hP : va_P D vwCl (MdW om xS xV xB xT xA xP xR cI 0 mS mSv (nI q) mBf (nI b) j0 j1 j2 j3 j4 kAt kWl mRd kRm (gHx h3 ((gPr n P i k : Int32).toInt64))) H := hP
              have hD : va_D (wr_in (MdW om xS xV xB xT xA xP xR cI thr mS mSv (nI q) mBf (nI b) mTl mAl mPl kBs kLf kAt kWl mRd kRm hsh)) (MdW om xS xV xB xT xA xP xR cI 0 mS mSv (nI q) mBf (nI b) j0 j1 j2 j3 j4 kAt kWl mRd kRm (gHx h3 ((gPr n P i k : Int32).toInt64))) := hD
              refine W.eq (g2 := F0 m 67 ls []) rfl ?_
              refine lv_iinc (v := nI (k + 1)) (lv' := [(2, .int (nI (k + 1))), (0, .ref om), (1, .int (nI i))]) hx hb dX5_digest_67 hl (k := 2) rfl (nI_add k 1) (by decide) rfl (fun ls hl => ?_)
              refine lv_goto (tgt := 50) hx hb dX5_digest_70 (by decide) ?_
              exact ih50 (k + 1) (gHx h3 ((gPr n P i k : Int32).toInt64)) H locs ls (by omega) (by omega) (by rw [inv50, gLg_step (n := 9) (by omega)]; rfl) hP hD hS (lv_sub hl [1, 2, 0] rfl)
    · have c_17n := Nat.not_le.mpr c_17
      refine lv_aload_n hx hb dX5_digest_20 rfl (lv_at hl 0 rfl) ?_
      refine lv_aload_n hx hb dX5_digest_21 rfl (lv_at hl 0 rfl) ?_
      refine lv_iload_n hx hb dX5_digest_22 rfl (lv_at hl 1 rfl) ?_
      refine wr_callV (As := [.int (nI k)]) (rest := [.ref om]) ⟨hx, hb, hml, hown, hts⟩ (c_X5_counts (P := P) l D (q := q) hq6 hn8 hQ hbk (k := k) (by omega)) (cwV 1 hts gX5_digest_X5_counts rfl rfl rfl (by decide +kernel) ⟨by decide, by decide⟩) hK hN hZ hP hD hS [0, 1, 2, 3, 4, 5, 6, 7] [0] rfl (by decide) rfl (q0 := 0) rfl rfl rfl hl.1 rfl (Nat.le_of_ble_eq_true rfl) ⟨by decide, by decide⟩ dX5_digest_23 (fun v9 w9 H locs hp9 hP hD hS => ?_)
      obtain ⟨rfl, rfl⟩ := hp9
      have hP : va_P D vwCl (MdW om xS xV xB xT xA xP xR cI 0 mS mSv (nI q) mBf (nI b) mTl mAl mPl kBs kLf kAt kWl mRd kRm h1) H := hP
      have hD : va_D (wr_in (MdW om xS xV xB xT xA xP xR cI thr mS mSv (nI q) mBf (nI b) mTl mAl mPl kBs kLf kAt kWl mRd kRm hsh)) (MdW om xS xV xB xT xA xP xR cI 0 mS mSv (nI q) mBf (nI b) mTl mAl mPl kBs kLf kAt kWl mRd kRm h1) := hD
      refine W.eq (g2 := F0 m 26 ls [.int (mCnt n P (nI q) k), .ref om]) rfl ?_
      refine lv_i2l (v := (mCnt n P (nI q) k : Int32).toInt64) hx hb dX5_digest_26 rfl ?_
      refine wr_callV (As := [.long ((mCnt n P (nI q) k : Int32).toInt64)]) (rest := []) ⟨hx, hb, hml, hown, hts⟩ (c_X5_hashes l D ((mCnt n P (nI q) k : Int32).toInt64)) (cwV 1 hts gX5_digest_X5_hashes rfl rfl rfl (by decide +kernel) ⟨by decide, by decide⟩) hK hN hZ hP hD hS [0, 1, 2, 3, 4, 5, 6, 7] [0] rfl (by decide) rfl (q0 := 0) rfl rfl rfl hl.1 rfl (Nat.le_of_ble_eq_true rfl) ⟨by decide, by decide⟩ dX5_digest_27 (fun v9 w9 H locs hp9 hP hD hS => ?_)
      obtain ⟨rfl, rfl⟩ := hp9
      have hP : va_P D vwCl (MdW om xS xV xB xT xA xP xR cI 0 mS mSv (nI q) mBf (nI b) mTl mAl mPl kBs kLf kAt kWl mRd kRm (gHx h1 ((mCnt n P (nI q) k : Int32).toInt64))) H := hP
      have hD : va_D (wr_in (MdW om xS xV xB xT xA xP xR cI thr mS mSv (nI q) mBf (nI b) mTl mAl mPl kBs kLf kAt kWl mRd kRm hsh)) (MdW om xS xV xB xT xA xP xR cI 0 mS mSv (nI q) mBf (nI b) mTl mAl mPl kBs kLf kAt kWl mRd kRm (gHx h1 ((mCnt n P (nI q) k : Int32).toInt64))) := hD
      refine W.eq (g2 := F0 m 30 ls []) rfl ?_
      refine lv_iinc (v := nI (k + 1)) (lv' := [(1, .int (nI (k + 1))), (0, .ref om)]) hx hb dX5_digest_30 hl (k := 1) rfl (nI_add k 1) (by decide) rfl (fun ls hl => ?_)
      refine lv_goto (tgt := 14) hx hb dX5_digest_33 (by decide) ?_
      exact ih14 (k + 1) (gHx h1 ((mCnt n P (nI q) k : Int32).toInt64)) H locs ls (by omega) (by omega) (by rw [inv14, gLg_step (n := 9) (by omega)]; rfl) hP hD hS (lv_sub hl [1, 0] rfl)
