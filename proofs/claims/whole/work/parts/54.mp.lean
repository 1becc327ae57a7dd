set_option maxHeartbeats 4000000 in
set_option maxRecDepth 100000 in
theorem c_X5_sign (l : Launch) (D : va_G) {om xS xV xB xT xA xP xR : Nat} {cI : ClassId} {thr kSm kBs kLf kRm : Int32} {hsh : Int64} {mS mSv mBf mTl mAl mPl mRd : Nat → Int32} {a b : Nat} {w : Bool} (hb60 : b ≤ 60) (ha : a ≤ b) : wr_M l yX5_sign wsX5_sign ({ frames := 0, cells := 0, slots := 0, locals := 0 } : Room) D (MdW om xS xV xB xT xA xP xR cI thr mS mSv kSm mBf (nI b) mTl mAl mPl kBs kLf (nI a) (bI w) mRd kRm hsh) [(cI, .int)] [.ref om] (fun v w9 => v = some (.int (mSg mBf b a)) ∧ w9 = MdW om xS xV xB xT xA xP xR cI thr mS mSv kSm mBf (nI b) mTl mAl mPl kBs kLf (nI a) (bI w) mRd kRm hsh) := by
  refine wr_of (cc := cX5_sign) (maxL := 1) (ret := some .int) (by decide) rfl (Nat.le_of_ble_eq_true rfl) ?_
  intro p e s m below meth c hx hb hr hml hts hown hlocks hP hK hN hZ hD hS ls hl
  have hown : s.vm.findClass RX5 = some m.cls := hown
  have hl : lv_has ls 1 [(0, .ref om)] := hl
  have hinX5 : ∀ w ∈ u_ws RX5 TX5 16, w ∈ wsX5_sign := by decide +kernel
  have hw157 := hts (.fieldLink RX5 157 "CornerLabelsModel" "at" "I") (by decide +kernel)
  have hw154 := hts (.fieldLink RX5 154 "CornerLabelsModel" "length" "I") (by decide +kernel)
  have hw16 := hts (.fieldLink RX5 16 "CornerLabelsModel" "buffer" "[I") (by decide +kernel)
  suffices body : ∀ (H : Heap) (locs : List Loc), va_P D vwCl (MdW om xS xV xB xT xA xP xR cI thr mS mSv kSm mBf (nI b) mTl mAl mPl kBs kLf (nI a) (bI w) mRd kRm hsh) H → va_D (wr_in (MdW om xS xV xB xT xA xP xR cI thr mS mSv kSm mBf (nI b) mTl mAl mPl kBs kLf (nI a) (bI w) mRd kRm hsh)) (MdW om xS xV xB xT xA xP xR cI thr mS mSv kSm mBf (nI b) mTl mAl mPl kBs kLf (nI a) (bI w) mRd kRm hsh) → va_S (wr_in (MdW om xS xV xB xT xA xP xR cI thr mS mSv kSm mBf (nI b) mTl mAl mPl kBs kLf (nI a) (bI w) mRd kRm hsh)) s.heap H locs → wr_W p l e wsX5_sign ({ frames := 0, cells := 0, slots := 0, locals := 0 } : Room) s m [.ref om] below meth c D (MdW om xS xV xB xT xA xP xR cI thr mS mSv kSm mBf (nI b) mTl mAl mPl kBs kLf (nI a) (bI w) mRd kRm hsh) (fun v w9 => v = some (.int (mSg mBf b a)) ∧ w9 = MdW om xS xV xB xT xA xP xR cI thr mS mSv kSm mBf (nI b) mTl mAl mPl kBs kLf (nI a) (bI w) mRd kRm hsh) H locs (F0 m 0 ls []) from body _ _ hP hD hS
  clear hP hD hS
  intro H locs hP hD hS
  refine lv_aload_n hx hb dX5_sign_0 rfl (lv_at hl 0 rfl) ?_
  refine va_get (D := D) (ci := 5) (v := .int (nI a)) (C := RX5) (T := TX5) (N := 16) hx hb hts hinX5 hown hK hP 0 rfl rfl 11 (by decide) hw157 (fun _ h9 => h9) rfl dX5_sign_1 ?_
  refine lv_aload_n hx hb dX5_sign_4 rfl (lv_at hl 0 rfl) ?_
  refine va_get (D := D) (ci := 5) (v := .int (nI b)) (C := RX5) (T := TX5) (N := 16) hx hb hts hinX5 hown hK hP 0 rfl rfl 5 (by decide) hw154 (fun _ h9 => h9) rfl dX5_sign_5 ?_
  refine rd_icmp_ge_n (a := a) (b := b) (tgt := 23) (by omega) (by omega) hx hb dX5_sign_8 (by decide) (fun c_8 => ?_) (fun c_8 => ?_)
  · have c_8n := Nat.not_lt.mpr c_8
    refine lv_iconst (v := 0) hx hb dX5_sign_23 (by decide) ?_
    exact wr_iret hx hb hr hlocks hP hS rfl dX5_sign_24 (by exact ⟨by simp [mSg, c_8]; exact fun h => absurd h (Nat.not_lt.mpr c_8), rfl⟩)
  · have c_8n := Nat.not_le.mpr c_8
    refine lv_aload_n hx hb dX5_sign_11 rfl (lv_at hl 0 rfl) ?_
    refine va_get (D := D) (ci := 5) (v := .ref xB) (C := RX5) (T := TX5) (N := 16) hx hb hts hinX5 hown hK hP 0 rfl rfl 4 (by decide) hw16 (fun _ h9 => h9) rfl dX5_sign_12 ?_
    refine lv_aload_n hx hb dX5_sign_15 rfl (lv_at hl 0 rfl) ?_
    refine va_get (D := D) (ci := 5) (v := .int (nI a)) (C := RX5) (T := TX5) (N := 16) hx hb hts hinX5 hown hK hP 0 rfl rfl 11 (by decide) hw157 (fun _ h9 => h9) rfl dX5_sign_16 ?_
    refine rd_ald (q0 := 3) (t0 := 0) (j := a) (v := mBf a) hx hb hK hP rfl rfl (rfl) (by omega) (by decide) (rfl) dX5_sign_19 ?_
    refine lv_goto (tgt := 24) hx hb dX5_sign_20 (by decide) ?_
    exact wr_iret hx hb hr hlocks hP hS rfl dX5_sign_24 (by exact ⟨by simp [mSg, c_8], rfl⟩)
set_option maxHeartbeats 4000000 in
set_option maxRecDepth 100000 in
theorem c_X5_takes (l : Launch) (D : va_G) {om xS xV xB xT xA xP xR : Nat} {cI : ClassId} {thr kSm kBs kLf kRm : Int32} {hsh : Int64} {mS mSv mBf mTl mAl mPl mRd : Nat → Int32} {a b : Nat} {w : Bool} (hb60 : b ≤ 60) (ha : a ≤ b) (x : Int32) : wr_M l yX5_takes wsX5_takes ({ frames := 1, cells := 0, slots := 0, locals := 20 } : Room) D (MdW om xS xV xB xT xA xP xR cI thr mS mSv kSm mBf (nI b) mTl mAl mPl kBs kLf (nI a) (bI w) mRd kRm hsh) [(cI, .int)] [.ref om, .int x] (fun v w9 => v = some (.int (bI (tkB mBf b w x a))) ∧ w9 = MdW om xS xV xB xT xA xP xR cI thr mS mSv kSm mBf (nI b) mTl mAl mPl kBs kLf (nI (if tkB mBf b w x a = true then a + 1 else a)) (bI w) mRd kRm hsh) := by
  refine wr_of (cc := cX5_takes) (maxL := 3) (ret := some .boolean) (by decide) rfl (Nat.le_of_ble_eq_true rfl) ?_
  intro p e s m below meth c hx hb hr hml hts hown hlocks hP hK hN hZ hD hS ls hl
  have hown : s.vm.findClass RX5 = some m.cls := hown
  have hl : lv_has ls 3 [(0, .ref om), (1, .int x)] := hl
  have hinX5 : ∀ w ∈ u_ws RX5 TX5 16, w ∈ wsX5_takes := by decide +kernel
  have hw160 := hts (.fieldLink RX5 160 "CornerLabelsModel" "isWell" "Z") (by decide +kernel)
  have hw157 := hts (.fieldLink RX5 157 "CornerLabelsModel" "at" "I") (by decide +kernel)
  suffices body : ∀ (H : Heap) (locs : List Loc), va_P D vwCl (MdW om xS xV xB xT xA xP xR cI thr mS mSv kSm mBf (nI b) mTl mAl mPl kBs kLf (nI a) (bI w) mRd kRm hsh) H → va_D (wr_in (MdW om xS xV xB xT xA xP xR cI thr mS mSv kSm mBf (nI b) mTl mAl mPl kBs kLf (nI a) (bI w) mRd kRm hsh)) (MdW om xS xV xB xT xA xP xR cI thr mS mSv kSm mBf (nI b) mTl mAl mPl kBs kLf (nI a) (bI w) mRd kRm hsh) → va_S (wr_in (MdW om xS xV xB xT xA xP xR cI thr mS mSv kSm mBf (nI b) mTl mAl mPl kBs kLf (nI a) (bI w) mRd kRm hsh)) s.heap H locs → wr_W p l e wsX5_takes ({ frames := 1, cells := 0, slots := 0, locals := 20 } : Room) s m [.ref om, .int x] below meth c D (MdW om xS xV xB xT xA xP xR cI thr mS mSv kSm mBf (nI b) mTl mAl mPl kBs kLf (nI a) (bI w) mRd kRm hsh) (fun v w9 => v = some (.int (bI (tkB mBf b w x a))) ∧ w9 = MdW om xS xV xB xT xA xP xR cI thr mS mSv kSm mBf (nI b) mTl mAl mPl kBs kLf (nI (if tkB mBf b w x a = true then a + 1 else a)) (bI w) mRd kRm hsh) H locs (F0 m 0 ls []) from body _ _ hP hD hS
  clear hP hD hS
  intro H locs hP hD hS
  refine lv_aload_n hx hb dX5_takes_0 rfl (lv_at hl 0 rfl) ?_
  refine va_get (D := D) (ci := 5) (v := .int (bI w)) (C := RX5) (T := TX5) (N := 16) hx hb hts hinX5 hown hK hP 0 rfl rfl 12 (by decide) hw160 (fun _ h9 => h9) rfl dX5_takes_1 ?_
  suffices j20 : ∀ (H : Heap) (locs : List Loc) (ls : Array Slot), va_P D vwCl (MdW om xS xV xB xT xA xP xR cI thr mS mSv kSm mBf (nI b) mTl mAl mPl kBs kLf (nI a) (bI w) mRd kRm hsh) H → va_D (wr_in (MdW om xS xV xB xT xA xP xR cI thr mS mSv kSm mBf (nI b) mTl mAl mPl kBs kLf (nI a) (bI w) mRd kRm hsh)) (MdW om xS xV xB xT xA xP xR cI thr mS mSv kSm mBf (nI b) mTl mAl mPl kBs kLf (nI a) (bI w) mRd kRm hsh) → va_S (wr_in (MdW om xS xV xB xT xA xP xR cI thr mS mSv kSm mBf (nI b) mTl mAl mPl kBs kLf (nI a) (bI w) mRd kRm hsh)) s.heap H locs → lv_has ls 3 [(0, .ref om), (1, .int x)] → wr_W p l e wsX5_takes ({ frames := 1, cells := 0, slots := 0, locals := 20 } : Room) s m [.ref om, .int x] below meth c D (MdW om xS xV xB xT xA xP xR cI thr mS mSv kSm mBf (nI b) mTl mAl mPl kBs kLf (nI a) (bI w) mRd kRm hsh) (fun v w9 => v = some (.int (bI (tkB mBf b w x a))) ∧ w9 = MdW om xS xV xB xT xA xP xR cI thr mS mSv kSm mBf (nI b) mTl mAl mPl kBs kLf (nI (if tkB mBf b w x a = true then a + 1 else a)) (bI w) mRd kRm hsh) H locs (F0 m 20 ls [.int (bI (tkB mBf b w x a))]) by
    refine rd_ifeq_b (tgt := 19) hx hb dX5_takes_4 (by decide) (fun c_4 => ?_) (fun c_4 => ?_)
    · refine lv_iconst (v := 0) hx hb dX5_takes_19 (by decide) ?_
      refine lv_asi (y := bI (tkB mBf b w x a)) (by unfold tkB; simp [bI, c_4]) ?_
      exact j20 H locs ls hP hD hS (lv_sub hl [0, 1] rfl)
    · refine lv_aload_n hx hb dX5_takes_7 rfl (lv_at hl 0 rfl) ?_
      refine wr_callV (As := []) (rest := []) ⟨hx, hb, hml, hown, hts⟩ (c_X5_sign l D hb60 (a := a) (w := w) ha) (cwV 0 hts gX5_takes_X5_sign rfl rfl rfl (by decide +kernel) ⟨by decide, by decide⟩) hK hN hZ hP hD hS [0, 1, 2, 3, 4, 5, 6, 7] [0] rfl (by decide) rfl (q0 := 0) rfl rfl rfl hl.1 rfl (Nat.le_of_ble_eq_true rfl) ⟨by decide, by decide⟩ dX5_takes_8 (fun v9 w9 H locs hp9 hP hD hS => ?_)
      obtain ⟨rfl, rfl⟩ := hp9
      have hP : va_P D vwCl (MdW om xS xV xB xT xA xP xR cI thr mS mSv kSm mBf (nI b) mTl mAl mPl kBs kLf (nI a) (bI w) mRd kRm hsh) H := hP
      have hD : va_D (wr_in (MdW om xS xV xB xT xA xP xR cI thr mS mSv kSm mBf (nI b) mTl mAl mPl kBs kLf (nI a) (bI w) mRd kRm hsh)) (MdW om xS xV xB xT xA xP xR cI thr mS mSv kSm mBf (nI b) mTl mAl mPl kBs kLf (nI a) (bI w) mRd kRm hsh) := hD
      refine W.eq (g2 := F0 m 11 ls [.int (mSg mBf b a)]) rfl ?_
      refine lv_iload_n hx hb dX5_takes_11 rfl (lv_at hl 1 rfl) ?_
      refine lv_icmp_ne (tgt := 19) hx hb dX5_takes_12 (by decide) (fun c_12 => ?_) (fun c_12 => ?_)
      · refine lv_iconst (v := 0) hx hb dX5_takes_19 (by decide) ?_
        refine lv_asi (y := bI (tkB mBf b w x a)) (by unfold tkB; simp [bI, c_4, c_12]) ?_
        exact j20 H locs ls hP hD hS (lv_sub hl [0, 1] rfl)
      · refine lv_iconst (v := 1) hx hb dX5_takes_15 (by decide) ?_
        refine lv_goto (tgt := 20) hx hb dX5_takes_16 (by decide) ?_
        refine lv_asi (y := bI (tkB mBf b w x a)) (by unfold tkB; simp [bI, c_4, c_12]) ?_
        exact j20 H locs ls hP hD hS (lv_sub hl [0, 1] rfl)
  intro H locs ls hP hD hS hl
  refine lv_istore_n (lv' := [(2, .int (bI (tkB mBf b w x a))), (0, .ref om), (1, .int x)]) hx hb dX5_takes_20 rfl hl (by decide) rfl (fun ls hl => ?_)
  refine lv_aload_n hx hb dX5_takes_21 rfl (lv_at hl 1 rfl) ?_
  refine lv_dup hx hb dX5_takes_22 rfl ?_
  refine va_get (D := D) (ci := 5) (v := .int (nI a)) (C := RX5) (T := TX5) (N := 16) hx hb hts hinX5 hown hK hP 0 rfl rfl 11 (by decide) hw157 (fun _ h9 => h9) rfl dX5_takes_23 ?_
  refine lv_iload_n hx hb dX5_takes_26 rfl (lv_at hl 0 rfl) ?_
  suffices j35 : ∀ ls : Array Slot, lv_has ls 3 [(2, .int (bI (tkB mBf b w x a))), (0, .ref om), (1, .int x)] → wr_W p l e wsX5_takes ({ frames := 1, cells := 0, slots := 0, locals := 20 } : Room) s m [.ref om, .int x] below meth c D (MdW om xS xV xB xT xA xP xR cI thr mS mSv kSm mBf (nI b) mTl mAl mPl kBs kLf (nI a) (bI w) mRd kRm hsh) (fun v w9 => v = some (.int (bI (tkB mBf b w x a))) ∧ w9 = MdW om xS xV xB xT xA xP xR cI thr mS mSv kSm mBf (nI b) mTl mAl mPl kBs kLf (nI (if tkB mBf b w x a = true then a + 1 else a)) (bI w) mRd kRm hsh) H locs (F0 m 35 ls [.int (if tkB mBf b w x a = true then 1 else 0), .int (nI a), .ref om]) by
    refine rd_ifeq_b (tgt := 34) hx hb dX5_takes_27 (by decide) (fun c_27 => ?_) (fun c_27 => ?_)
    · refine lv_iconst (v := 0) hx hb dX5_takes_34 (by decide) ?_
      refine lv_asi (y := if tkB mBf b w x a = true then 1 else 0) (by simp [c_27]) ?_
      exact j35 ls (lv_sub hl [0, 1, 2] rfl)
    · refine lv_iconst (v := 1) hx hb dX5_takes_30 (by decide) ?_
      refine lv_goto (tgt := 35) hx hb dX5_takes_31 (by decide) ?_
      refine lv_asi (y := if tkB mBf b w x a = true then 1 else 0) (by simp [c_27]) ?_
      exact j35 ls (lv_sub hl [0, 1, 2] rfl)
  intro ls hl
  refine lv_iadd hx hb dX5_takes_35 ?_
  refine lv_asi (y := nI (if tkB mBf b w x a = true then a + 1 else a)) (by cases (tkB mBf b w x a) <;> simp [nI_add a 0, nI_add a 1, ← nI_succ, nI_succ]) ?_
  refine va_put (D := D) (ci := 5) (v := .int (nI (if tkB mBf b w x a = true then a + 1 else a))) (ty := .int) (C := RX5) (T := TX5) (N := 16) hx hb hts hinX5 tyX5 tyX5_ok nmX5 hown hK hP hD hS 0 rfl rfl 11 (by decide) hw157 (fun _ h9 => h9) rfl (by decide +kernel) rfl rfl (Nat.le_of_ble_eq_true rfl) dX5_takes_36 (fun H locs hP hD hS => ?_)
  have hP : va_P D vwCl (MdW om xS xV xB xT xA xP xR cI thr mS mSv kSm mBf (nI b) mTl mAl mPl kBs kLf (nI (if tkB mBf b w x a = true then a + 1 else a)) (bI w) mRd kRm hsh) H := hP
  have hD : va_D (wr_in (MdW om xS xV xB xT xA xP xR cI thr mS mSv kSm mBf (nI b) mTl mAl mPl kBs kLf (nI a) (bI w) mRd kRm hsh)) (MdW om xS xV xB xT xA xP xR cI thr mS mSv kSm mBf (nI b) mTl mAl mPl kBs kLf (nI (if tkB mBf b w x a = true then a + 1 else a)) (bI w) mRd kRm hsh) := hD
  refine lv_iload_n hx hb dX5_takes_39 rfl (lv_at hl 0 rfl) ?_
  exact wr_zret (b := tkB mBf b w x a) hx hb hr hlocks hP hS rfl dX5_takes_40 (by exact ⟨rfl, rfl⟩)
set_option maxHeartbeats 4000000 in
set_option maxRecDepth 100000 in
theorem c_X5_number (l : Launch) (D : va_G) {om xS xV xB xT xA xP xR : Nat} {cI : ClassId} {thr kSm kBs kLf kRm : Int32} {hsh : Int64} {mS mSv mBf mTl mAl mPl mRd : Nat → Int32} {a b : Nat} {w : Bool} (hb60 : b ≤ 60) (ha : a ≤ b) {le : Int32} (hl0 : le = 0 ∨ le = 1) (mo : Int32) : wr_M l yX5_number wsX5_number ({ frames := 1, cells := 0, slots := 0, locals := 22 } : Room) D (MdW om xS xV xB xT xA xP xR cI thr mS mSv kSm mBf (nI b) mTl mAl mPl kBs kLf (nI a) (bI w) mRd kRm hsh) [(cI, .int)] [.ref om, .int le, .int mo] (fun v w9 => v = some (.int (nmR mBf b w le mo a).1) ∧ w9 = MdW om xS xV xB xT xA xP xR cI thr mS mSv kSm mBf (nI b) mTl mAl mPl kBs kLf (nI ((nmR mBf b w le mo a).2)) (bI (nmW mBf b w le a)) mRd kRm hsh) := by
  have ha0 : (if nmW mBf b w le a = true then a + 1 else a) ≤ b := by
    split
    · rename_i q; unfold nmW at q; rw [Bool.and_eq_true] at q; exact mSg_lt (mDig_in hl0 q.2)
    · exact ha
  refine wr_of (cc := cX5_number) (maxL := 4) (ret := some .int) (by decide) rfl (Nat.le_of_ble_eq_true rfl) ?_
  intro p e s m below meth c hx hb hr hml hts hown hlocks hP hK hN hZ hD hS ls hl
  have hown : s.vm.findClass RX5 = some m.cls := hown
  have hl : lv_has ls 4 [(0, .ref om), (1, .int le), (2, .int mo)] := hl
  have hinX5 : ∀ w ∈ u_ws RX5 TX5 16, w ∈ wsX5_number := by decide +kernel
  have hw160 := hts (.fieldLink RX5 160 "CornerLabelsModel" "isWell" "Z") (by decide +kernel)
  have hw157 := hts (.fieldLink RX5 157 "CornerLabelsModel" "at" "I") (by decide +kernel)
  suffices body : ∀ (H : Heap) (locs : List Loc), va_P D vwCl (MdW om xS xV xB xT xA xP xR cI thr mS mSv kSm mBf (nI b) mTl mAl mPl kBs kLf (nI a) (bI w) mRd kRm hsh) H → va_D (wr_in (MdW om xS xV xB xT xA xP xR cI thr mS mSv kSm mBf (nI b) mTl mAl mPl kBs kLf (nI a) (bI w) mRd kRm hsh)) (MdW om xS xV xB xT xA xP xR cI thr mS mSv kSm mBf (nI b) mTl mAl mPl kBs kLf (nI a) (bI w) mRd kRm hsh) → va_S (wr_in (MdW om xS xV xB xT xA xP xR cI thr mS mSv kSm mBf (nI b) mTl mAl mPl kBs kLf (nI a) (bI w) mRd kRm hsh)) s.heap H locs → wr_W p l e wsX5_number ({ frames := 1, cells := 0, slots := 0, locals := 22 } : Room) s m [.ref om, .int le, .int mo] below meth c D (MdW om xS xV xB xT xA xP xR cI thr mS mSv kSm mBf (nI b) mTl mAl mPl kBs kLf (nI a) (bI w) mRd kRm hsh) (fun v w9 => v = some (.int (nmR mBf b w le mo a).1) ∧ w9 = MdW om xS xV xB xT xA xP xR cI thr mS mSv kSm mBf (nI b) mTl mAl mPl kBs kLf (nI ((nmR mBf b w le mo a).2)) (bI (nmW mBf b w le a)) mRd kRm hsh) H locs (F0 m 0 ls []) from body _ _ hP hD hS
  clear hP hD hS
  intro H locs hP hD hS
  refine lv_aload_n hx hb dX5_number_0 rfl (lv_at hl 0 rfl) ?_
  refine lv_aload_n hx hb dX5_number_1 rfl (lv_at hl 0 rfl) ?_
  refine va_get (D := D) (ci := 5) (v := .int (bI w)) (C := RX5) (T := TX5) (N := 16) hx hb hts hinX5 hown hK hP 0 rfl rfl 12 (by decide) hw160 (fun _ h9 => h9) rfl dX5_number_2 ?_
  suffices j29 : ∀ (H : Heap) (locs : List Loc) (ls : Array Slot), va_P D vwCl (MdW om xS xV xB xT xA xP xR cI thr mS mSv kSm mBf (nI b) mTl mAl mPl kBs kLf (nI a) (bI w) mRd kRm hsh) H → va_D (wr_in (MdW om xS xV xB xT xA xP xR cI thr mS mSv kSm mBf (nI b) mTl mAl mPl kBs kLf (nI a) (bI w) mRd kRm hsh)) (MdW om xS xV xB xT xA xP xR cI thr mS mSv kSm mBf (nI b) mTl mAl mPl kBs kLf (nI a) (bI w) mRd kRm hsh) → va_S (wr_in (MdW om xS xV xB xT xA xP xR cI thr mS mSv kSm mBf (nI b) mTl mAl mPl kBs kLf (nI a) (bI w) mRd kRm hsh)) s.heap H locs → lv_has ls 4 [(0, .ref om), (1, .int le), (2, .int mo)] → wr_W p l e wsX5_number ({ frames := 1, cells := 0, slots := 0, locals := 22 } : Room) s m [.ref om, .int le, .int mo] below meth c D (MdW om xS xV xB xT xA xP xR cI thr mS mSv kSm mBf (nI b) mTl mAl mPl kBs kLf (nI a) (bI w) mRd kRm hsh) (fun v w9 => v = some (.int (nmR mBf b w le mo a).1) ∧ w9 = MdW om xS xV xB xT xA xP xR cI thr mS mSv kSm mBf (nI b) mTl mAl mPl kBs kLf (nI ((nmR mBf b w le mo a).2)) (bI (nmW mBf b w le a)) mRd kRm hsh) H locs (F0 m 29 ls [.int (bI (nmW mBf b w le a)), .ref om]) by
    refine rd_ifeq_b (tgt := 28) hx hb dX5_number_5 (by decide) (fun c_5 => ?_) (fun c_5 => ?_)
    · refine lv_iconst (v := 0) hx hb dX5_number_28 (by decide) ?_
      refine lv_asi (y := bI (nmW mBf b w le a)) (by unfold nmW; simp [bI, c_5]) ?_
      exact j29 H locs ls hP hD hS (lv_sub hl [0, 1, 2] rfl)
    · refine lv_aload_n hx hb dX5_number_8 rfl (lv_at hl 0 rfl) ?_
      refine wr_callV (As := []) (rest := [.ref om]) ⟨hx, hb, hml, hown, hts⟩ (c_X5_sign l D hb60 (a := a) (w := w) ha) (cwV 0 hts gX5_number_X5_sign rfl rfl rfl (by decide +kernel) ⟨by decide, by decide⟩) hK hN hZ hP hD hS [0, 1, 2, 3, 4, 5, 6, 7] [0] rfl (by decide) rfl (q0 := 0) rfl rfl rfl hl.1 rfl (Nat.le_of_ble_eq_true rfl) ⟨by decide, by decide⟩ dX5_number_9 (fun v9 w9 H locs hp9 hP hD hS => ?_)
      obtain ⟨rfl, rfl⟩ := hp9
      have hP : va_P D vwCl (MdW om xS xV xB xT xA xP xR cI thr mS mSv kSm mBf (nI b) mTl mAl mPl kBs kLf (nI a) (bI w) mRd kRm hsh) H := hP
      have hD : va_D (wr_in (MdW om xS xV xB xT xA xP xR cI thr mS mSv kSm mBf (nI b) mTl mAl mPl kBs kLf (nI a) (bI w) mRd kRm hsh)) (MdW om xS xV xB xT xA xP xR cI thr mS mSv kSm mBf (nI b) mTl mAl mPl kBs kLf (nI a) (bI w) mRd kRm hsh) := hD
      refine W.eq (g2 := F0 m 12 ls [.int (mSg mBf b a), .ref om]) rfl ?_
      refine lv_bipush (v := 48) hx hb dX5_number_12 (by decide) ?_
      refine lv_iload_n hx hb dX5_number_14 rfl (lv_at hl 1 rfl) ?_
      refine lv_iadd hx hb dX5_number_15 ?_
      refine lv_bipush (v := 57) hx hb dX5_number_16 (by decide) ?_
      refine rd_callS (As := [.int (mSg mBf b a), .int (48 + le), .int 57]) (rest := [.ref om]) ⟨hx, hb, hml, hown, hts⟩ (c_X5_in l D (mSg mBf b a) (48 + le) 57) (va_cwS 3 hts gX5_number_X5_in rfl rfl rfl (by decide +kernel) ⟨by decide, by decide⟩) hK hN hP rfl hl.1 rfl (Nat.le_of_ble_eq_true rfl) ⟨by decide, by decide⟩ dX5_number_18 ?_
      refine rd_ifeq_b (tgt := 28) hx hb dX5_number_21 (by decide) (fun c_21 => ?_) (fun c_21 => ?_)
      · refine lv_iconst (v := 0) hx hb dX5_number_28 (by decide) ?_
        refine lv_asi (y := bI (nmW mBf b w le a)) (by unfold nmW; simp [bI, c_5, c_21]) ?_
        exact j29 H locs ls hP hD hS (lv_sub hl [0, 1, 2] rfl)
      · refine lv_iconst (v := 1) hx hb dX5_number_24 (by decide) ?_
        refine lv_goto (tgt := 29) hx hb dX5_number_25 (by decide) ?_
        refine lv_asi (y := bI (nmW mBf b w le a)) (by unfold nmW; simp [bI, c_5, c_21]) ?_
        exact j29 H locs ls hP hD hS (lv_sub hl [0, 1, 2] rfl)
  intro H locs ls hP hD hS hl
  refine va_put (D := D) (ci := 5) (v := .int (bI (nmW mBf b w le a))) (ty := .boolean) (C := RX5) (T := TX5) (N := 16) hx hb hts hinX5 tyX5 tyX5_ok nmX5 hown hK hP hD hS 0 rfl rfl 12 (by decide) hw160 (fun _ h9 => h9) rfl (by decide +kernel) (bI_n _) (bI_fit _) (Nat.le_of_ble_eq_true rfl) dX5_number_29 (fun H locs hP hD hS => ?_)
  have hP : va_P D vwCl (MdW om xS xV xB xT xA xP xR cI thr mS mSv kSm mBf (nI b) mTl mAl mPl kBs kLf (nI a) (bI (nmW mBf b w le a)) mRd kRm hsh) H := hP
  have hD : va_D (wr_in (MdW om xS xV xB xT xA xP xR cI thr mS mSv kSm mBf (nI b) mTl mAl mPl kBs kLf (nI a) (bI w) mRd kRm hsh)) (MdW om xS xV xB xT xA xP xR cI thr mS mSv kSm mBf (nI b) mTl mAl mPl kBs kLf (nI a) (bI (nmW mBf b w le a)) mRd kRm hsh) := hD
  refine lv_aload_n hx hb dX5_number_32 rfl (lv_at hl 0 rfl) ?_
  refine wr_callV (As := []) (rest := []) ⟨hx, hb, hml, hown, hts⟩ (c_X5_sign l D hb60 (a := a) (w := nmW mBf b w le a) ha) (cwV 0 hts gX5_number_X5_sign rfl rfl rfl (by decide +kernel) ⟨by decide, by decide⟩) hK hN hZ hP hD hS [0, 1, 2, 3, 4, 5, 6, 7] [0] rfl (by decide) rfl (q0 := 0) rfl rfl rfl hl.1 rfl (Nat.le_of_ble_eq_true rfl) ⟨by decide, by decide⟩ dX5_number_33 (fun v9 w9 H locs hp9 hP hD hS => ?_)
  obtain ⟨rfl, rfl⟩ := hp9
  have hP : va_P D vwCl (MdW om xS xV xB xT xA xP xR cI thr mS mSv kSm mBf (nI b) mTl mAl mPl kBs kLf (nI a) (bI (nmW mBf b w le a)) mRd kRm hsh) H := hP
  have hD : va_D (wr_in (MdW om xS xV xB xT xA xP xR cI thr mS mSv kSm mBf (nI b) mTl mAl mPl kBs kLf (nI a) (bI w) mRd kRm hsh)) (MdW om xS xV xB xT xA xP xR cI thr mS mSv kSm mBf (nI b) mTl mAl mPl kBs kLf (nI a) (bI (nmW mBf b w le a)) mRd kRm hsh) := hD
  refine W.eq (g2 := F0 m 36 ls [.int (mSg mBf b a)]) rfl ?_
  refine lv_bipush (v := 48) hx hb dX5_number_36 (by decide) ?_
  refine lv_isub hx hb dX5_number_38 ?_
  refine lv_istore_n (lv' := [(3, .int ((mSg mBf b a) - 48)), (0, .ref om), (1, .int le), (2, .int mo)]) hx hb dX5_number_39 rfl hl (by decide) rfl (fun ls hl => ?_)
  refine lv_aload_n hx hb dX5_number_40 rfl (lv_at hl 1 rfl) ?_
  refine lv_dup hx hb dX5_number_41 rfl ?_
  refine va_get (D := D) (ci := 5) (v := .int (nI a)) (C := RX5) (T := TX5) (N := 16) hx hb hts hinX5 hown hK hP 0 rfl rfl 11 (by decide) hw157 (fun _ h9 => h9) rfl dX5_number_42 ?_
  refine lv_aload_n hx hb dX5_number_45 rfl (lv_at hl 1 rfl) ?_
  refine va_get (D := D) (ci := 5) (v := .int (bI (nmW mBf b w le a))) (C := RX5) (T := TX5) (N := 16) hx hb hts hinX5 hown hK hP 0 rfl rfl 12 (by decide) hw160 (fun _ h9 => h9) rfl dX5_number_46 ?_
  suffices j57 : ∀ ls : Array Slot, lv_has ls 4 [(3, .int ((mSg mBf b a) - 48)), (0, .ref om), (1, .int le), (2, .int mo)] → wr_W p l e wsX5_number ({ frames := 1, cells := 0, slots := 0, locals := 22 } : Room) s m [.ref om, .int le, .int mo] below meth c D (MdW om xS xV xB xT xA xP xR cI thr mS mSv kSm mBf (nI b) mTl mAl mPl kBs kLf (nI a) (bI w) mRd kRm hsh) (fun v w9 => v = some (.int (nmR mBf b w le mo a).1) ∧ w9 = MdW om xS xV xB xT xA xP xR cI thr mS mSv kSm mBf (nI b) mTl mAl mPl kBs kLf (nI ((nmR mBf b w le mo a).2)) (bI (nmW mBf b w le a)) mRd kRm hsh) H locs (F0 m 57 ls [.int (if nmW mBf b w le a = true then 1 else 0), .int (nI a), .ref om]) by
    refine rd_ifeq_b (tgt := 56) hx hb dX5_number_49 (by decide) (fun c_49 => ?_) (fun c_49 => ?_)
    · refine lv_iconst (v := 0) hx hb dX5_number_56 (by decide) ?_
      refine lv_asi (y := if nmW mBf b w le a = true then 1 else 0) (by simp [c_49]) ?_
      exact j57 ls (lv_sub hl [0, 1, 2, 3] rfl)
    · refine lv_iconst (v := 1) hx hb dX5_number_52 (by decide) ?_
      refine lv_goto (tgt := 57) hx hb dX5_number_53 (by decide) ?_
      refine lv_asi (y := if nmW mBf b w le a = true then 1 else 0) (by simp [c_49]) ?_
      exact j57 ls (lv_sub hl [0, 1, 2, 3] rfl)
  intro ls hl
  refine lv_iadd hx hb dX5_number_57 ?_
  refine lv_asi (y := nI (if nmW mBf b w le a = true then a + 1 else a)) (by cases (nmW mBf b w le a) <;> simp [nI_add a 0, nI_add a 1, ← nI_succ, nI_succ]) ?_
  refine va_put (D := D) (ci := 5) (v := .int (nI (if nmW mBf b w le a = true then a + 1 else a))) (ty := .int) (C := RX5) (T := TX5) (N := 16) hx hb hts hinX5 tyX5 tyX5_ok nmX5 hown hK hP hD hS 0 rfl rfl 11 (by decide) hw157 (fun _ h9 => h9) rfl (by decide +kernel) rfl rfl (Nat.le_of_ble_eq_true rfl) dX5_number_58 (fun H locs hP hD hS => ?_)
  have hP : va_P D vwCl (MdW om xS xV xB xT xA xP xR cI thr mS mSv kSm mBf (nI b) mTl mAl mPl kBs kLf (nI (if nmW mBf b w le a = true then a + 1 else a)) (bI (nmW mBf b w le a)) mRd kRm hsh) H := hP
  have hD : va_D (wr_in (MdW om xS xV xB xT xA xP xR cI thr mS mSv kSm mBf (nI b) mTl mAl mPl kBs kLf (nI a) (bI w) mRd kRm hsh)) (MdW om xS xV xB xT xA xP xR cI thr mS mSv kSm mBf (nI b) mTl mAl mPl kBs kLf (nI (if nmW mBf b w le a = true then a + 1 else a)) (bI (nmW mBf b w le a)) mRd kRm hsh) := hD
  suffices loop61 : ∀ (k61 a1 : Nat) (its1 : Int32) (H : Heap) (locs : List Loc) (ls : Array Slot), a1 ≤ b → b + 1 ≤ a1 + k61 → (mNm mBf b (nmW mBf b w le a) mo its1 a1 = nmR mBf b w le mo a) → va_P D vwCl (MdW om xS xV xB xT xA xP xR cI thr mS mSv kSm mBf (nI b) mTl mAl mPl kBs kLf (nI a1) (bI (nmW mBf b w le a)) mRd kRm hsh) H → va_D (wr_in (MdW om xS xV xB xT xA xP xR cI thr mS mSv kSm mBf (nI b) mTl mAl mPl kBs kLf (nI a) (bI w) mRd kRm hsh)) (MdW om xS xV xB xT xA xP xR cI thr mS mSv kSm mBf (nI b) mTl mAl mPl kBs kLf (nI a1) (bI (nmW mBf b w le a)) mRd kRm hsh) → va_S (wr_in (MdW om xS xV xB xT xA xP xR cI thr mS mSv kSm mBf (nI b) mTl mAl mPl kBs kLf (nI a) (bI w) mRd kRm hsh)) s.heap H locs → lv_has ls 4 [(0, .ref om), (1, .int le), (2, .int mo), (3, .int its1)] → wr_W p l e wsX5_number ({ frames := 1, cells := 0, slots := 0, locals := 22 } : Room) s m [.ref om, .int le, .int mo] below meth c D (MdW om xS xV xB xT xA xP xR cI thr mS mSv kSm mBf (nI b) mTl mAl mPl kBs kLf (nI a) (bI w) mRd kRm hsh) (fun v w9 => v = some (.int (nmR mBf b w le mo a).1) ∧ w9 = MdW om xS xV xB xT xA xP xR cI thr mS mSv kSm mBf (nI b) mTl mAl mPl kBs kLf (nI ((nmR mBf b w le mo a).2)) (bI (nmW mBf b w le a)) mRd kRm hsh) H locs (F0 m 61 ls []) from
    loop61 (b + 1) (if nmW mBf b w le a = true then a + 1 else a) ((mSg mBf b a) - 48) H locs ls (by omega) (by omega) (by rfl) hP hD hS (lv_sub hl [1, 2, 3, 0] rfl)
  intro k61
  induction k61 with
  | zero => intro a1 its1 H locs ls h1 h2; exact absurd h2 (by omega)
  | succ k61 ih61 =>
    intro a1 its1 H locs ls hle61 hlt61 inv61 hP hD hS hl
    refine lv_aload_n hx hb dX5_number_61 rfl (lv_at hl 0 rfl) ?_
    refine va_get (D := D) (ci := 5) (v := .int (bI (nmW mBf b w le a))) (C := RX5) (T := TX5) (N := 16) hx hb hts hinX5 hown hK hP 0 rfl rfl 12 (by decide) hw160 (fun _ h9 => h9) rfl dX5_number_62 ?_
    refine rd_ifeq_b (tgt := 128) hx hb dX5_number_65 (by decide) (fun c_65 => ?_) (fun c_65 => ?_)
    · refine lv_iload_n hx hb dX5_number_128 rfl (lv_at hl 3 rfl) ?_
      exact wr_iret hx hb hr hlocks hP hS rfl dX5_number_129 (by rw [← inv61, mNm_end (fun q => by rw [c_65] at q; exact absurd q.1 (by decide))]; exact ⟨rfl, rfl⟩)
    · refine lv_iload_n hx hb dX5_number_68 rfl (lv_at hl 3 rfl) ?_
      refine lv_if_le (tgt := 128) hx hb dX5_number_69 (by decide) (fun c_69 => ?_) (fun c_69 => ?_)
      · have c_69n := Int32.not_lt.mpr c_69
        refine lv_iload_n hx hb dX5_number_128 rfl (lv_at hl 3 rfl) ?_
        exact wr_iret hx hb hr hlocks hP hS rfl dX5_number_129 (by rw [← inv61, mNm_end (fun q => c_69n q.2.1)]; exact ⟨rfl, rfl⟩)
      · have c_69n := Int32.not_le.mp c_69
        refine lv_aload_n hx hb dX5_number_72 rfl (lv_at hl 0 rfl) ?_
        refine wr_callV (As := []) (rest := []) ⟨hx, hb, hml, hown, hts⟩ (c_X5_sign l D hb60 (a := a1) (w := nmW mBf b w le a) hle61) (cwV 0 hts gX5_number_X5_sign rfl rfl rfl (by decide +kernel) ⟨by decide, by decide⟩) hK hN hZ hP hD hS [0, 1, 2, 3, 4, 5, 6, 7] [0] rfl (by decide) rfl (q0 := 0) rfl rfl rfl hl.1 rfl (Nat.le_of_ble_eq_true rfl) ⟨by decide, by decide⟩ dX5_number_73 (fun v9 w9 H locs hp9 hP hD hS => ?_)
        obtain ⟨rfl, rfl⟩ := hp9
        have hP : va_P D vwCl (MdW om xS xV xB xT xA xP xR cI thr mS mSv kSm mBf (nI b) mTl mAl mPl kBs kLf (nI a1) (bI (nmW mBf b w le a)) mRd kRm hsh) H := hP
        have hD : va_D (wr_in (MdW om xS xV xB xT xA xP xR cI thr mS mSv kSm mBf (nI b) mTl mAl mPl kBs kLf (nI a) (bI w) mRd kRm hsh)) (MdW om xS xV xB xT xA xP xR cI thr mS mSv kSm mBf (nI b) mTl mAl mPl kBs kLf (nI a1) (bI (nmW mBf b w le a)) mRd kRm hsh) := hD
        refine W.eq (g2 := F0 m 76 ls [.int (mSg mBf b a1)]) rfl ?_
        refine lv_bipush (v := 48) hx hb dX5_number_76 (by decide) ?_
        refine lv_bipush (v := 57) hx hb dX5_number_78 (by decide) ?_
        refine rd_callS (As := [.int (mSg mBf b a1), .int 48, .int 57]) (rest := []) ⟨hx, hb, hml, hown, hts⟩ (c_X5_in l D (mSg mBf b a1) 48 57) (va_cwS 3 hts gX5_number_X5_in rfl rfl rfl (by decide +kernel) ⟨by decide, by decide⟩) hK hN hP rfl hl.1 rfl (Nat.le_of_ble_eq_true rfl) ⟨by decide, by decide⟩ dX5_number_80 ?_
        refine rd_ifeq_b (tgt := 128) hx hb dX5_number_83 (by decide) (fun c_83 => ?_) (fun c_83 => ?_)
        · refine lv_iload_n hx hb dX5_number_128 rfl (lv_at hl 3 rfl) ?_
          exact wr_iret hx hb hr hlocks hP hS rfl dX5_number_129 (by rw [← inv61, mNm_end (fun q => by rw [c_83] at q; exact absurd q.2.2.1 (by decide))]; exact ⟨rfl, rfl⟩)
        · have ha1 := mSg_lt c_83
          refine lv_bipush (v := 10) hx hb dX5_number_86 (by decide) ?_
          refine lv_iload_n hx hb dX5_number_88 rfl (lv_at hl 3 rfl) ?_
          refine lv_imul hx hb dX5_number_89 ?_
          refine lv_aload_n hx hb dX5_number_90 rfl (lv_at hl 0 rfl) ?_
          refine wr_callV (As := []) (rest := [.int (10 * its1)]) ⟨hx, hb, hml, hown, hts⟩ (c_X5_sign l D hb60 (a := a1) (w := nmW mBf b w le a) hle61) (cwV 0 hts gX5_number_X5_sign rfl rfl rfl (by decide +kernel) ⟨by decide, by decide⟩) hK hN hZ hP hD hS [0, 1, 2, 3, 4, 5, 6, 7] [0] rfl (by decide) rfl (q0 := 0) rfl rfl rfl hl.1 rfl (Nat.le_of_ble_eq_true rfl) ⟨by decide, by decide⟩ dX5_number_91 (fun v9 w9 H locs hp9 hP hD hS => ?_)
          obtain ⟨rfl, rfl⟩ := hp9
          have hP : va_P D vwCl (MdW om xS xV xB xT xA xP xR cI thr mS mSv kSm mBf (nI b) mTl mAl mPl kBs kLf (nI a1) (bI (nmW mBf b w le a)) mRd kRm hsh) H := hP
          have hD : va_D (wr_in (MdW om xS xV xB xT xA xP xR cI thr mS mSv kSm mBf (nI b) mTl mAl mPl kBs kLf (nI a) (bI w) mRd kRm hsh)) (MdW om xS xV xB xT xA xP xR cI thr mS mSv kSm mBf (nI b) mTl mAl mPl kBs kLf (nI a1) (bI (nmW mBf b w le a)) mRd kRm hsh) := hD
          refine W.eq (g2 := F0 m 94 ls [.int (mSg mBf b a1), .int (10 * its1)]) rfl ?_
          refine lv_iadd hx hb dX5_number_94 ?_
          refine lv_bipush (v := 48) hx hb dX5_number_95 (by decide) ?_
          refine lv_isub hx hb dX5_number_97 ?_
          refine lv_iload_n hx hb dX5_number_98 rfl (lv_at hl 2 rfl) ?_
          refine lv_icmp_gt (tgt := 128) hx hb dX5_number_99 (by decide) (fun c_99 => ?_) (fun c_99 => ?_)
          · have c_99n := Int32.not_le.mpr c_99
            refine lv_iload_n hx hb dX5_number_128 rfl (lv_at hl 3 rfl) ?_
            exact wr_iret hx hb hr hlocks hP hS rfl dX5_number_129 (by rw [← inv61, mNm_end (fun q => c_99n q.2.2.2)]; exact ⟨rfl, rfl⟩)
          · have c_99n := Int32.not_lt.mp c_99
            refine lv_bipush (v := 10) hx hb dX5_number_102 (by decide) ?_
            refine lv_iload_n hx hb dX5_number_104 rfl (lv_at hl 3 rfl) ?_
            refine lv_imul hx hb dX5_number_105 ?_
            refine lv_aload_n hx hb dX5_number_106 rfl (lv_at hl 0 rfl) ?_
            refine wr_callV (As := []) (rest := [.int (10 * its1)]) ⟨hx, hb, hml, hown, hts⟩ (c_X5_sign l D hb60 (a := a1) (w := nmW mBf b w le a) hle61) (cwV 0 hts gX5_number_X5_sign rfl rfl rfl (by decide +kernel) ⟨by decide, by decide⟩) hK hN hZ hP hD hS [0, 1, 2, 3, 4, 5, 6, 7] [0] rfl (by decide) rfl (q0 := 0) rfl rfl rfl hl.1 rfl (Nat.le_of_ble_eq_true rfl) ⟨by decide, by decide⟩ dX5_number_107 (fun v9 w9 H locs hp9 hP hD hS => ?_)
            obtain ⟨rfl, rfl⟩ := hp9
            have hP : va_P D vwCl (MdW om xS xV xB xT xA xP xR cI thr mS mSv kSm mBf (nI b) mTl mAl mPl kBs kLf (nI a1) (bI (nmW mBf b w le a)) mRd kRm hsh) H := hP
            have hD : va_D (wr_in (MdW om xS xV xB xT xA xP xR cI thr mS mSv kSm mBf (nI b) mTl mAl mPl kBs kLf (nI a) (bI w) mRd kRm hsh)) (MdW om xS xV xB xT xA xP xR cI thr mS mSv kSm mBf (nI b) mTl mAl mPl kBs kLf (nI a1) (bI (nmW mBf b w le a)) mRd kRm hsh) := hD
            refine W.eq (g2 := F0 m 110 ls [.int (mSg mBf b a1), .int (10 * its1)]) rfl ?_
            refine lv_iadd hx hb dX5_number_110 ?_
            refine lv_bipush (v := 48) hx hb dX5_number_111 (by decide) ?_
            refine lv_isub hx hb dX5_number_113 ?_
            refine lv_istore_n (lv' := [(3, .int (((10 * its1) + (mSg mBf b a1)) - 48)), (0, .ref om), (1, .int le), (2, .int mo)]) hx hb dX5_number_114 rfl hl (by decide) rfl (fun ls hl => ?_)
            refine lv_aload_n hx hb dX5_number_115 rfl (lv_at hl 1 rfl) ?_
            refine lv_dup hx hb dX5_number_116 rfl ?_
            refine va_get (D := D) (ci := 5) (v := .int (nI a1)) (C := RX5) (T := TX5) (N := 16) hx hb hts hinX5 hown hK hP 0 rfl rfl 11 (by decide) hw157 (fun _ h9 => h9) rfl dX5_number_117 ?_
            refine lv_iconst (v := 1) hx hb dX5_number_120 (by decide) ?_
            refine lv_iadd hx hb dX5_number_121 ?_
            refine lv_asi (y := nI (a1 + 1)) (nI_add a1 1) ?_
            refine va_put (D := D) (ci := 5) (v := .int (nI (a1 + 1))) (ty := .int) (C := RX5) (T := TX5) (N := 16) hx hb hts hinX5 tyX5 tyX5_ok nmX5 hown hK hP hD hS 0 rfl rfl 11 (by decide) hw157 (fun _ h9 => h9) rfl (by decide +kernel) rfl rfl (Nat.le_of_ble_eq_true rfl) dX5_number_122 (fun H locs hP hD hS => ?_)
            have hP : va_P D vwCl (MdW om xS xV xB xT xA xP xR cI thr mS mSv kSm mBf (nI b) mTl mAl mPl kBs kLf (nI (a1 + 1)) (bI (nmW mBf b w le a)) mRd kRm hsh) H := hP
            have hD : va_D (wr_in (MdW om xS xV xB xT xA xP xR cI thr mS mSv kSm mBf (nI b) mTl mAl mPl kBs kLf (nI a) (bI w) mRd kRm hsh)) (MdW om xS xV xB xT xA xP xR cI thr mS mSv kSm mBf (nI b) mTl mAl mPl kBs kLf (nI (a1 + 1)) (bI (nmW mBf b w le a)) mRd kRm hsh) := hD
            refine lv_goto (tgt := 61) hx hb dX5_number_125 (by decide) ?_
            exact ih61 (a1 + 1) (((10 * its1) + (mSg mBf b a1)) - 48) H locs ls (by omega) (by omega) (by exact (mNm_step c_65 c_69n c_83 c_99n).symm.trans inv61) hP hD hS (lv_sub hl [1, 2, 3, 0] rfl)
