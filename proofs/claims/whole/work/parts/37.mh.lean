set_option maxHeartbeats 4000000 in
set_option maxRecDepth 100000 in
theorem c_X5_heaviest (l : Launch) (D : va_G) {om xS xV xB xT xA xP xR : Nat} {cI : ClassId} {thr kLn kBs kLf kAt kWl kRm : Int32} {hsh : Int64} {mS mSv mBf mTl mAl mPl mRd : Nat → Int32} {n : Nat} {P : Nat → Nat → Int32} {q : Nat} (hq6 : q ≤ 6) (hn8 : n ≤ 8) (hQ : mdS n P mS) (hbk : bd_ok n P) (wo : Int32) : wr_M l yX5_heaviest wsX5_heaviest ({ frames := 6, cells := 0, slots := 0, locals := 138 } : Room) D (MdW om xS xV xB xT xA xP xR cI thr mS mSv (nI q) mBf kLn mTl mAl mPl kBs kLf kAt kWl mRd kRm hsh) [(cI, .int)] [.ref om, .int wo] (fun v w9 => v = some (.int (mHv n P wo mPl).1) ∧ ∃ al9 tl9 : Nat → Int32, w9 = MdW om xS xV xB xT xA xP xR cI thr mS mSv (nI q) mBf kLn tl9 al9 ((mHv n P wo mPl).2) ((mHv n P wo mPl).1) 0 kAt kWl mRd kRm hsh) := by
  refine wr_of (cc := cX5_heaviest) (maxL := 3) (ret := some .int) (by decide) rfl (Nat.le_of_ble_eq_true rfl) ?_
  intro p e s m below meth c hx hb hr hml hts hown hlocks hP hK hN hZ hD hS ls hl
  have hown : s.vm.findClass RX5 = some m.cls := hown
  have hl : lv_has ls 3 [(0, .ref om), (1, .int wo)] := hl
  have hinX5 : ∀ w ∈ u_ws RX5 TX5 16, w ∈ wsX5_heaviest := by decide +kernel
  have hw7 := hts (.fieldLink RX5 7 "CornerLabelsModel" "s" "[I") (by decide +kernel)
  have hw22 := hts (.fieldLink RX5 22 "CornerLabelsModel" "allowed" "[I") (by decide +kernel)
  suffices body : ∀ (H : Heap) (locs : List Loc), va_P D vwCl (MdW om xS xV xB xT xA xP xR cI thr mS mSv (nI q) mBf kLn mTl mAl mPl kBs kLf kAt kWl mRd kRm hsh) H → va_D (wr_in (MdW om xS xV xB xT xA xP xR cI thr mS mSv (nI q) mBf kLn mTl mAl mPl kBs kLf kAt kWl mRd kRm hsh)) (MdW om xS xV xB xT xA xP xR cI thr mS mSv (nI q) mBf kLn mTl mAl mPl kBs kLf kAt kWl mRd kRm hsh) → va_S (wr_in (MdW om xS xV xB xT xA xP xR cI thr mS mSv (nI q) mBf kLn mTl mAl mPl kBs kLf kAt kWl mRd kRm hsh)) s.heap H locs → wr_W p l e wsX5_heaviest ({ frames := 6, cells := 0, slots := 0, locals := 138 } : Room) s m [.ref om, .int wo] below meth c D (MdW om xS xV xB xT xA xP xR cI thr mS mSv (nI q) mBf kLn mTl mAl mPl kBs kLf kAt kWl mRd kRm hsh) (fun v w9 => v = some (.int (mHv n P wo mPl).1) ∧ ∃ al9 tl9 : Nat → Int32, w9 = MdW om xS xV xB xT xA xP xR cI thr mS mSv (nI q) mBf kLn tl9 al9 ((mHv n P wo mPl).2) ((mHv n P wo mPl).1) 0 kAt kWl mRd kRm hsh) H locs (F0 m 0 ls []) from body _ _ hP hD hS
  clear hP hD hS
  intro H locs hP hD hS
  refine lv_iconst (v := 0) hx hb dX5_heaviest_0 (by decide) ?_
  refine lv_istore_n (lv' := [(2, .int 0), (0, .ref om), (1, .int wo)]) hx hb dX5_heaviest_1 rfl hl (by decide) rfl (fun ls hl => ?_)
  suffices loop2 : ∀ (k2 i : Nat) (a1 : Nat → Int32) (H : Heap) (locs : List Loc) (ls : Array Slot), i ≤ n → n + 1 ≤ i + k2 → (alI i (alH n P wo) a1) → va_P D vwCl (MdW om xS xV xB xT xA xP xR cI thr mS mSv (nI q) mBf kLn mTl a1 mPl kBs kLf kAt kWl mRd kRm hsh) H → va_D (wr_in (MdW om xS xV xB xT xA xP xR cI thr mS mSv (nI q) mBf kLn mTl mAl mPl kBs kLf kAt kWl mRd kRm hsh)) (MdW om xS xV xB xT xA xP xR cI thr mS mSv (nI q) mBf kLn mTl a1 mPl kBs kLf kAt kWl mRd kRm hsh) → va_S (wr_in (MdW om xS xV xB xT xA xP xR cI thr mS mSv (nI q) mBf kLn mTl mAl mPl kBs kLf kAt kWl mRd kRm hsh)) s.heap H locs → lv_has ls 3 [(0, .ref om), (1, .int wo), (2, .int (nI i))] → wr_W p l e wsX5_heaviest ({ frames := 6, cells := 0, slots := 0, locals := 138 } : Room) s m [.ref om, .int wo] below meth c D (MdW om xS xV xB xT xA xP xR cI thr mS mSv (nI q) mBf kLn mTl mAl mPl kBs kLf kAt kWl mRd kRm hsh) (fun v w9 => v = some (.int (mHv n P wo mPl).1) ∧ ∃ al9 tl9 : Nat → Int32, w9 = MdW om xS xV xB xT xA xP xR cI thr mS mSv (nI q) mBf kLn tl9 al9 ((mHv n P wo mPl).2) ((mHv n P wo mPl).1) 0 kAt kWl mRd kRm hsh) H locs (F0 m 2 ls []) from
    loop2 (n + 1) 0 mAl H locs ls (by omega) (by omega) (by exact fun j hj => absurd hj (by omega)) hP hD hS (lv_sub hl [1, 2, 0] rfl)
  intro k2
  induction k2 with
  | zero => intro i a1 H locs ls h1 h2; exact absurd h2 (by omega)
  | succ k2 ih2 =>
    intro i a1 H locs ls hle2 hlt2 inv2 hP hD hS hl
    refine lv_iload_n hx hb dX5_heaviest_2 rfl (lv_at hl 2 rfl) ?_
    refine lv_aload_n hx hb dX5_heaviest_3 rfl (lv_at hl 0 rfl) ?_
    refine va_get (D := D) (ci := 5) (v := .ref xS) (C := RX5) (T := TX5) (N := 16) hx hb hts hinX5 hown hK hP 0 rfl rfl 1 (by decide) hw7 (fun _ h9 => h9) rfl dX5_heaviest_4 ?_
    refine lv_iconst (v := 0) hx hb dX5_heaviest_7 (by decide) ?_
    refine rd_ald (q0 := 1) (t0 := 0) (j := 0) (v := nI n) hx hb hK hP rfl rfl (rfl) (by omega) (by decide) (hQ.1) dX5_heaviest_8 ?_
    refine rd_icmp_ge_n (a := i) (b := n) (tgt := 42) (by omega) (by omega) hx hb dX5_heaviest_9 (by decide) (fun c_9 => ?_) (fun c_9 => ?_)
    · have c_9n := Nat.not_lt.mpr c_9
      refine lv_aload_n hx hb dX5_heaviest_42 rfl (lv_at hl 0 rfl) ?_
      refine lv_iconst (v := 0) hx hb dX5_heaviest_43 (by decide) ?_
      refine wr_callV (As := [.int 0]) (rest := []) ⟨hx, hb, hml, hown, hts⟩ (c_X5_searches (P := P) l D (q := q) hq6 hn8 hQ hbk (lf := 0) (by omega)) (cwV 1 hts gX5_heaviest_X5_searches rfl rfl rfl (by decide +kernel) ⟨by decide, by decide⟩) hK hN hZ hP hD hS [0, 1, 2, 3, 4, 5, 6, 7] [0] rfl (by decide) rfl (q0 := 0) rfl rfl rfl hl.1 rfl (Nat.le_of_ble_eq_true rfl) ⟨by decide, by decide⟩ dX5_heaviest_44 (fun v9 w9 H locs hp9 hP hD hS => ?_)
      obtain ⟨rfl, tl9, rfl⟩ := hp9
      have hP : va_P D vwCl (MdW om xS xV xB xT xA xP xR cI thr mS mSv (nI q) mBf kLn tl9 a1 ((srM 0 n a1 P n 0 (fun _ => 0) (-1, mPl)).2) ((srM 0 n a1 P n 0 (fun _ => 0) (-1, mPl)).1) 0 kAt kWl mRd kRm hsh) H := hP
      have hD : va_D (wr_in (MdW om xS xV xB xT xA xP xR cI thr mS mSv (nI q) mBf kLn mTl mAl mPl kBs kLf kAt kWl mRd kRm hsh)) (MdW om xS xV xB xT xA xP xR cI thr mS mSv (nI q) mBf kLn tl9 a1 ((srM 0 n a1 P n 0 (fun _ => 0) (-1, mPl)).2) ((srM 0 n a1 P n 0 (fun _ => 0) (-1, mPl)).1) 0 kAt kWl mRd kRm hsh) := hD
      refine W.eq (g2 := F0 m 47 ls [.int ((srM 0 n a1 P n 0 (fun _ => 0) (-1, mPl)).1)]) rfl ?_
      exact wr_iret hx hb hr hlocks hP hS rfl dX5_heaviest_47 (by exact ⟨by rw [srM_al inv2 c_9]; rfl, _, _, by rw [srM_al inv2 c_9]; rfl⟩)
    · have c_9n := Nat.not_le.mpr c_9
      refine lv_aload_n hx hb dX5_heaviest_12 rfl (lv_at hl 0 rfl) ?_
      refine va_get (D := D) (ci := 5) (v := .ref xA) (C := RX5) (T := TX5) (N := 16) hx hb hts hinX5 hown hK hP 0 rfl rfl 7 (by decide) hw22 (fun _ h9 => h9) rfl dX5_heaviest_13 ?_
      refine lv_iload_n hx hb dX5_heaviest_16 rfl (lv_at hl 2 rfl) ?_
      suffices j35 : ∀ ls : Array Slot, lv_has ls 3 [(0, .ref om), (1, .int wo), (2, .int (nI i))] → wr_W p l e wsX5_heaviest ({ frames := 6, cells := 0, slots := 0, locals := 138 } : Room) s m [.ref om, .int wo] below meth c D (MdW om xS xV xB xT xA xP xR cI thr mS mSv (nI q) mBf kLn mTl mAl mPl kBs kLf kAt kWl mRd kRm hsh) (fun v w9 => v = some (.int (mHv n P wo mPl).1) ∧ ∃ al9 tl9 : Nat → Int32, w9 = MdW om xS xV xB xT xA xP xR cI thr mS mSv (nI q) mBf kLn tl9 al9 ((mHv n P wo mPl).2) ((mHv n P wo mPl).1) 0 kAt kWl mRd kRm hsh) H locs (F0 m 35 ls [.int (alH n P wo i), .int (nI i), .ref xA]) by
        refine lv_iload_n hx hb dX5_heaviest_17 rfl (lv_at hl 2 rfl) ?_
        refine lv_iload_n hx hb dX5_heaviest_18 rfl (lv_at hl 1 rfl) ?_
        refine lv_icmp_ne (tgt := 27) hx hb dX5_heaviest_19 (by decide) (fun c_19 => ?_) (fun c_19 => ?_)
        · refine lv_aload_n hx hb dX5_heaviest_27 rfl (lv_at hl 0 rfl) ?_
          refine lv_iload_n hx hb dX5_heaviest_28 rfl (lv_at hl 2 rfl) ?_
          have hmd : md_in (MdW om xS xV xB xT xA xP xR cI thr mS mSv (nI q) mBf kLn mTl a1 mPl kBs kLf kAt kWl mRd kRm hsh) [(cI, .int)] om n P := ⟨0, 1, 0, xS, cI, mS, _, rfl, rfl, rfl, rfl, hn8, hQ.1, hQ.2, hbk⟩
          refine rd_callV (As := [.int (nI i)]) (rest := [.int (nI i), .ref xA]) ⟨hx, hb, hml, hown, hts⟩ (c_X5_openOf l D hmd c_9) (cwV 1 hts gX5_heaviest_X5_openOf rfl rfl rfl (by decide +kernel) ⟨by decide, by decide⟩) hK hN hP (q0 := 0) rfl rfl rfl hl.1 rfl (Nat.le_of_ble_eq_true rfl) ⟨by decide, by decide⟩ dX5_heaviest_29 ?_
          refine lv_bipush (v := 16) hx hb dX5_heaviest_32 (by decide) ?_
          refine lv_ior hx hb dX5_heaviest_34 ?_
          refine lv_asi (y := alH n P wo i) (by simp [alH, c_19]) ?_
          exact j35 ls (lv_sub hl [0, 1, 2] rfl)
        · refine lv_bipush (v := 16) hx hb dX5_heaviest_22 (by decide) ?_
          refine lv_goto (tgt := 35) hx hb dX5_heaviest_24 (by decide) ?_
          refine lv_asi (y := alH n P wo i) (by simp [alH, c_19]) ?_
          exact j35 ls (lv_sub hl [0, 1, 2] rfl)
      intro ls hl
      refine wr_ast (q0 := 5) (t0 := 0) (j := i) hx hb hK hP hD hS rfl rfl (rfl) (by omega) (by decide) dX5_heaviest_35 (fun H locs hP hD hS => ?_)
      obtain ⟨mAl_35, emAl_35⟩ : ∃ zz9 : Nat → Int32, zz9 = upd a1 i (alH n P wo i) := ⟨_, rfl⟩
      rw [← emAl_35] at hP hD
      have hP : va_P D vwCl (MdW om xS xV xB xT xA xP xR cI thr mS mSv (nI q) mBf kLn mTl mAl_35 mPl kBs kLf kAt kWl mRd kRm hsh) H := hP
      have hD : va_D (wr_in (MdW om xS xV xB xT xA xP xR cI thr mS mSv (nI q) mBf kLn mTl mAl mPl kBs kLf kAt kWl mRd kRm hsh)) (MdW om xS xV xB xT xA xP xR cI thr mS mSv (nI q) mBf kLn mTl mAl_35 mPl kBs kLf kAt kWl mRd kRm hsh) := hD
      refine lv_iinc (v := nI (i + 1)) (lv' := [(2, .int (nI (i + 1))), (0, .ref om), (1, .int wo)]) hx hb dX5_heaviest_36 hl (k := 2) rfl (nI_add i 1) (by decide) rfl (fun ls hl => ?_)
      refine lv_goto (tgt := 2) hx hb dX5_heaviest_39 (by decide) ?_
      exact ih2 (i + 1) mAl_35 H locs ls (by omega) (by omega) (by exact alI_step inv2 emAl_35 rfl) hP hD hS (lv_sub hl [1, 2, 0] rfl)
set_option maxHeartbeats 4000000 in
set_option maxRecDepth 100000 in
theorem c_X5_fulls (l : Launch) (D : va_G) {om xS xV xB xT xA xP xR : Nat} {cI : ClassId} {thr kLn kBs kLf kAt kWl kRm : Int32} {hsh : Int64} {mS mSv mBf mTl mAl mPl mRd : Nat → Int32} {n : Nat} {P : Nat → Nat → Int32} {q : Nat} (hq6 : q ≤ 6) (hn8 : n ≤ 8) (hQ : mdS n P mS) (hbk : bd_ok n P) : wr_M l yX5_fulls wsX5_fulls ({ frames := 6, cells := 0, slots := 0, locals := 138 } : Room) D (MdW om xS xV xB xT xA xP xR cI thr mS mSv (nI q) mBf kLn mTl mAl mPl kBs kLf kAt kWl mRd kRm hsh) [(cI, .int)] [.ref om] (fun v w9 => v = some (.int (mFu n P mPl).1) ∧ ∃ al9 tl9 : Nat → Int32, w9 = MdW om xS xV xB xT xA xP xR cI thr mS mSv (nI q) mBf kLn tl9 al9 ((mFu n P mPl).2) ((mFu n P mPl).1) 2 kAt kWl mRd kRm hsh) := by
  refine wr_of (cc := cX5_fulls) (maxL := 2) (ret := some .int) (by decide) rfl (Nat.le_of_ble_eq_true rfl) ?_
  intro p e s m below meth c hx hb hr hml hts hown hlocks hP hK hN hZ hD hS ls hl
  have hown : s.vm.findClass RX5 = some m.cls := hown
  have hl : lv_has ls 2 [(0, .ref om)] := hl
  have hinX5 : ∀ w ∈ u_ws RX5 TX5 16, w ∈ wsX5_fulls := by decide +kernel
  have hw7 := hts (.fieldLink RX5 7 "CornerLabelsModel" "s" "[I") (by decide +kernel)
  have hw22 := hts (.fieldLink RX5 22 "CornerLabelsModel" "allowed" "[I") (by decide +kernel)
  suffices body : ∀ (H : Heap) (locs : List Loc), va_P D vwCl (MdW om xS xV xB xT xA xP xR cI thr mS mSv (nI q) mBf kLn mTl mAl mPl kBs kLf kAt kWl mRd kRm hsh) H → va_D (wr_in (MdW om xS xV xB xT xA xP xR cI thr mS mSv (nI q) mBf kLn mTl mAl mPl kBs kLf kAt kWl mRd kRm hsh)) (MdW om xS xV xB xT xA xP xR cI thr mS mSv (nI q) mBf kLn mTl mAl mPl kBs kLf kAt kWl mRd kRm hsh) → va_S (wr_in (MdW om xS xV xB xT xA xP xR cI thr mS mSv (nI q) mBf kLn mTl mAl mPl kBs kLf kAt kWl mRd kRm hsh)) s.heap H locs → wr_W p l e wsX5_fulls ({ frames := 6, cells := 0, slots := 0, locals := 138 } : Room) s m [.ref om] below meth c D (MdW om xS xV xB xT xA xP xR cI thr mS mSv (nI q) mBf kLn mTl mAl mPl kBs kLf kAt kWl mRd kRm hsh) (fun v w9 => v = some (.int (mFu n P mPl).1) ∧ ∃ al9 tl9 : Nat → Int32, w9 = MdW om xS xV xB xT xA xP xR cI thr mS mSv (nI q) mBf kLn tl9 al9 ((mFu n P mPl).2) ((mFu n P mPl).1) 2 kAt kWl mRd kRm hsh) H locs (F0 m 0 ls []) from body _ _ hP hD hS
  clear hP hD hS
  intro H locs hP hD hS
  refine lv_iconst (v := 0) hx hb dX5_fulls_0 (by decide) ?_
  refine lv_istore_n (lv' := [(1, .int 0), (0, .ref om)]) hx hb dX5_fulls_1 rfl hl (by decide) rfl (fun ls hl => ?_)
  suffices loop2 : ∀ (k2 i : Nat) (a1 : Nat → Int32) (H : Heap) (locs : List Loc) (ls : Array Slot), i ≤ n → n + 1 ≤ i + k2 → (alI i (alF n P) a1) → va_P D vwCl (MdW om xS xV xB xT xA xP xR cI thr mS mSv (nI q) mBf kLn mTl a1 mPl kBs kLf kAt kWl mRd kRm hsh) H → va_D (wr_in (MdW om xS xV xB xT xA xP xR cI thr mS mSv (nI q) mBf kLn mTl mAl mPl kBs kLf kAt kWl mRd kRm hsh)) (MdW om xS xV xB xT xA xP xR cI thr mS mSv (nI q) mBf kLn mTl a1 mPl kBs kLf kAt kWl mRd kRm hsh) → va_S (wr_in (MdW om xS xV xB xT xA xP xR cI thr mS mSv (nI q) mBf kLn mTl mAl mPl kBs kLf kAt kWl mRd kRm hsh)) s.heap H locs → lv_has ls 2 [(0, .ref om), (1, .int (nI i))] → wr_W p l e wsX5_fulls ({ frames := 6, cells := 0, slots := 0, locals := 138 } : Room) s m [.ref om] below meth c D (MdW om xS xV xB xT xA xP xR cI thr mS mSv (nI q) mBf kLn mTl mAl mPl kBs kLf kAt kWl mRd kRm hsh) (fun v w9 => v = some (.int (mFu n P mPl).1) ∧ ∃ al9 tl9 : Nat → Int32, w9 = MdW om xS xV xB xT xA xP xR cI thr mS mSv (nI q) mBf kLn tl9 al9 ((mFu n P mPl).2) ((mFu n P mPl).1) 2 kAt kWl mRd kRm hsh) H locs (F0 m 2 ls []) from
    loop2 (n + 1) 0 mAl H locs ls (by omega) (by omega) (by exact fun j hj => absurd hj (by omega)) hP hD hS (lv_sub hl [1, 0] rfl)
  intro k2
  induction k2 with
  | zero => intro i a1 H locs ls h1 h2; exact absurd h2 (by omega)
  | succ k2 ih2 =>
    intro i a1 H locs ls hle2 hlt2 inv2 hP hD hS hl
    refine lv_iload_n hx hb dX5_fulls_2 rfl (lv_at hl 1 rfl) ?_
    refine lv_aload_n hx hb dX5_fulls_3 rfl (lv_at hl 0 rfl) ?_
    refine va_get (D := D) (ci := 5) (v := .ref xS) (C := RX5) (T := TX5) (N := 16) hx hb hts hinX5 hown hK hP 0 rfl rfl 1 (by decide) hw7 (fun _ h9 => h9) rfl dX5_fulls_4 ?_
    refine lv_iconst (v := 0) hx hb dX5_fulls_7 (by decide) ?_
    refine rd_ald (q0 := 1) (t0 := 0) (j := 0) (v := nI n) hx hb hK hP rfl rfl (rfl) (by omega) (by decide) (hQ.1) dX5_fulls_8 ?_
    refine rd_icmp_ge_n (a := i) (b := n) (tgt := 42) (by omega) (by omega) hx hb dX5_fulls_9 (by decide) (fun c_9 => ?_) (fun c_9 => ?_)
    · have c_9n := Nat.not_lt.mpr c_9
      refine lv_aload_n hx hb dX5_fulls_42 rfl (lv_at hl 0 rfl) ?_
      refine lv_iconst (v := 2) hx hb dX5_fulls_43 (by decide) ?_
      refine wr_callV (As := [.int 2]) (rest := []) ⟨hx, hb, hml, hown, hts⟩ (c_X5_searches (P := P) l D (q := q) hq6 hn8 hQ hbk (lf := 2) (by omega)) (cwV 1 hts gX5_fulls_X5_searches rfl rfl rfl (by decide +kernel) ⟨by decide, by decide⟩) hK hN hZ hP hD hS [0, 1, 2, 3, 4, 5, 6, 7] [0] rfl (by decide) rfl (q0 := 0) rfl rfl rfl hl.1 rfl (Nat.le_of_ble_eq_true rfl) ⟨by decide, by decide⟩ dX5_fulls_44 (fun v9 w9 H locs hp9 hP hD hS => ?_)
      obtain ⟨rfl, tl9, rfl⟩ := hp9
      have hP : va_P D vwCl (MdW om xS xV xB xT xA xP xR cI thr mS mSv (nI q) mBf kLn tl9 a1 ((srM 2 n a1 P n 0 (fun _ => 0) (0, mPl)).2) ((srM 2 n a1 P n 0 (fun _ => 0) (0, mPl)).1) 2 kAt kWl mRd kRm hsh) H := hP
      have hD : va_D (wr_in (MdW om xS xV xB xT xA xP xR cI thr mS mSv (nI q) mBf kLn mTl mAl mPl kBs kLf kAt kWl mRd kRm hsh)) (MdW om xS xV xB xT xA xP xR cI thr mS mSv (nI q) mBf kLn tl9 a1 ((srM 2 n a1 P n 0 (fun _ => 0) (0, mPl)).2) ((srM 2 n a1 P n 0 (fun _ => 0) (0, mPl)).1) 2 kAt kWl mRd kRm hsh) := hD
      refine W.eq (g2 := F0 m 47 ls [.int ((srM 2 n a1 P n 0 (fun _ => 0) (0, mPl)).1)]) rfl ?_
      exact wr_iret hx hb hr hlocks hP hS rfl dX5_fulls_47 (by exact ⟨by rw [srM_al inv2 c_9]; rfl, _, _, by rw [srM_al inv2 c_9]; rfl⟩)
    · have c_9n := Nat.not_le.mpr c_9
      refine lv_aload_n hx hb dX5_fulls_12 rfl (lv_at hl 0 rfl) ?_
      refine va_get (D := D) (ci := 5) (v := .ref xA) (C := RX5) (T := TX5) (N := 16) hx hb hts hinX5 hown hK hP 0 rfl rfl 7 (by decide) hw22 (fun _ h9 => h9) rfl dX5_fulls_13 ?_
      refine lv_iload_n hx hb dX5_fulls_16 rfl (lv_at hl 1 rfl) ?_
      suffices j35 : ∀ ls : Array Slot, lv_has ls 2 [(0, .ref om), (1, .int (nI i))] → wr_W p l e wsX5_fulls ({ frames := 6, cells := 0, slots := 0, locals := 138 } : Room) s m [.ref om] below meth c D (MdW om xS xV xB xT xA xP xR cI thr mS mSv (nI q) mBf kLn mTl mAl mPl kBs kLf kAt kWl mRd kRm hsh) (fun v w9 => v = some (.int (mFu n P mPl).1) ∧ ∃ al9 tl9 : Nat → Int32, w9 = MdW om xS xV xB xT xA xP xR cI thr mS mSv (nI q) mBf kLn tl9 al9 ((mFu n P mPl).2) ((mFu n P mPl).1) 2 kAt kWl mRd kRm hsh) H locs (F0 m 35 ls [.int (alF n P i), .int (nI i), .ref xA]) by
        refine lv_aload_n hx hb dX5_fulls_17 rfl (lv_at hl 0 rfl) ?_
        refine lv_iload_n hx hb dX5_fulls_18 rfl (lv_at hl 1 rfl) ?_
        have hmd : md_in (MdW om xS xV xB xT xA xP xR cI thr mS mSv (nI q) mBf kLn mTl a1 mPl kBs kLf kAt kWl mRd kRm hsh) [(cI, .int)] om n P := ⟨0, 1, 0, xS, cI, mS, _, rfl, rfl, rfl, rfl, hn8, hQ.1, hQ.2, hbk⟩
        refine rd_callV (As := [.int (nI i)]) (rest := [.int (nI i), .ref xA]) ⟨hx, hb, hml, hown, hts⟩ (c_X5_openOf l D hmd c_9) (cwV 1 hts gX5_fulls_X5_openOf rfl rfl rfl (by decide +kernel) ⟨by decide, by decide⟩) hK hN hP (q0 := 0) rfl rfl rfl hl.1 rfl (Nat.le_of_ble_eq_true rfl) ⟨by decide, by decide⟩ dX5_fulls_19 ?_
        refine lv_if_ne (tgt := 30) hx hb dX5_fulls_22 (by decide) (fun c_22 => ?_) (fun c_22 => ?_)
        · refine lv_aload_n hx hb dX5_fulls_30 rfl (lv_at hl 0 rfl) ?_
          refine lv_iload_n hx hb dX5_fulls_31 rfl (lv_at hl 1 rfl) ?_
          have hmd : md_in (MdW om xS xV xB xT xA xP xR cI thr mS mSv (nI q) mBf kLn mTl a1 mPl kBs kLf kAt kWl mRd kRm hsh) [(cI, .int)] om n P := ⟨0, 1, 0, xS, cI, mS, _, rfl, rfl, rfl, rfl, hn8, hQ.1, hQ.2, hbk⟩
          refine rd_callV (As := [.int (nI i)]) (rest := [.int (nI i), .ref xA]) ⟨hx, hb, hml, hown, hts⟩ (c_X5_openOf l D hmd c_9) (cwV 1 hts gX5_fulls_X5_openOf rfl rfl rfl (by decide +kernel) ⟨by decide, by decide⟩) hK hN hP (q0 := 0) rfl rfl rfl hl.1 rfl (Nat.le_of_ble_eq_true rfl) ⟨by decide, by decide⟩ dX5_fulls_32 ?_
          refine lv_asi (y := alF n P i) (by simp [alF, c_22]) ?_
          exact j35 ls (lv_sub hl [0, 1] rfl)
        · refine lv_bipush (v := 16) hx hb dX5_fulls_25 (by decide) ?_
          refine lv_goto (tgt := 35) hx hb dX5_fulls_27 (by decide) ?_
          refine lv_asi (y := alF n P i) (by simp [alF, c_22]) ?_
          exact j35 ls (lv_sub hl [0, 1] rfl)
      intro ls hl
      refine wr_ast (q0 := 5) (t0 := 0) (j := i) hx hb hK hP hD hS rfl rfl (rfl) (by omega) (by decide) dX5_fulls_35 (fun H locs hP hD hS => ?_)
      obtain ⟨mAl_35, emAl_35⟩ : ∃ zz9 : Nat → Int32, zz9 = upd a1 i (alF n P i) := ⟨_, rfl⟩
      rw [← emAl_35] at hP hD
      have hP : va_P D vwCl (MdW om xS xV xB xT xA xP xR cI thr mS mSv (nI q) mBf kLn mTl mAl_35 mPl kBs kLf kAt kWl mRd kRm hsh) H := hP
      have hD : va_D (wr_in (MdW om xS xV xB xT xA xP xR cI thr mS mSv (nI q) mBf kLn mTl mAl mPl kBs kLf kAt kWl mRd kRm hsh)) (MdW om xS xV xB xT xA xP xR cI thr mS mSv (nI q) mBf kLn mTl mAl_35 mPl kBs kLf kAt kWl mRd kRm hsh) := hD
      refine lv_iinc (v := nI (i + 1)) (lv' := [(1, .int (nI (i + 1))), (0, .ref om)]) hx hb dX5_fulls_36 hl (k := 1) rfl (nI_add i 1) (by decide) rfl (fun ls hl => ?_)
      refine lv_goto (tgt := 2) hx hb dX5_fulls_39 (by decide) ?_
      exact ih2 (i + 1) mAl_35 H locs ls (by omega) (by omega) (by exact alI_step inv2 emAl_35 rfl) hP hD hS (lv_sub hl [1, 0] rfl)
set_option maxHeartbeats 4000000 in
set_option maxRecDepth 100000 in
theorem c_X5_makesRoom (l : Launch) (D : va_G) {om xS xV xB xT xA xP xR : Nat} {cI : ClassId} {thr kLn kBs kLf kAt kWl kRm : Int32} {hsh : Int64} {mS mSv mBf mTl mAl mPl mRd : Nat → Int32} {n : Nat} {P : Nat → Nat → Int32} {q : Nat} (hq6 : q ≤ 6) (hn8 : n ≤ 8) (hQ : mdS n P mS) (hbk : bd_ok n P) {w : Nat} (hw : w < n) : wr_M l yX5_makesRoom wsX5_makesRoom ({ frames := 6, cells := 0, slots := 0, locals := 138 } : Room) D (MdW om xS xV xB xT xA xP xR cI thr mS mSv (nI q) mBf kLn mTl mAl mPl kBs kLf kAt kWl mRd kRm hsh) [(cI, .int)] [.ref om, .int (nI w)] (fun v w9 => v = some (.int (mMr n P w mPl)) ∧ ∃ (al9 tl9 : Nat → Int32) (lf9 bs9 : Int32) (pl9 : Nat → Int32), (P w 5 = -1 → pl9 = (mRm n P w mPl).2) ∧ w9 = MdW om xS xV xB xT xA xP xR cI thr mS mSv (nI q) mBf kLn tl9 al9 pl9 bs9 lf9 kAt kWl mRd kRm hsh) := by
  refine wr_of (cc := cX5_makesRoom) (maxL := 3) (ret := some .int) (by decide) rfl (Nat.le_of_ble_eq_true rfl) ?_
  intro p e s m below meth c hx hb hr hml hts hown hlocks hP hK hN hZ hD hS ls hl
  have hown : s.vm.findClass RX5 = some m.cls := hown
  have hl : lv_has ls 3 [(0, .ref om), (1, .int (nI w))] := hl
  have hinX5 : ∀ w ∈ u_ws RX5 TX5 16, w ∈ wsX5_makesRoom := by decide +kernel
  have hw7 := hts (.fieldLink RX5 7 "CornerLabelsModel" "s" "[I") (by decide +kernel)
  have hw22 := hts (.fieldLink RX5 22 "CornerLabelsModel" "allowed" "[I") (by decide +kernel)
  suffices body : ∀ (H : Heap) (locs : List Loc), va_P D vwCl (MdW om xS xV xB xT xA xP xR cI thr mS mSv (nI q) mBf kLn mTl mAl mPl kBs kLf kAt kWl mRd kRm hsh) H → va_D (wr_in (MdW om xS xV xB xT xA xP xR cI thr mS mSv (nI q) mBf kLn mTl mAl mPl kBs kLf kAt kWl mRd kRm hsh)) (MdW om xS xV xB xT xA xP xR cI thr mS mSv (nI q) mBf kLn mTl mAl mPl kBs kLf kAt kWl mRd kRm hsh) → va_S (wr_in (MdW om xS xV xB xT xA xP xR cI thr mS mSv (nI q) mBf kLn mTl mAl mPl kBs kLf kAt kWl mRd kRm hsh)) s.heap H locs → wr_W p l e wsX5_makesRoom ({ frames := 6, cells := 0, slots := 0, locals := 138 } : Room) s m [.ref om, .int (nI w)] below meth c D (MdW om xS xV xB xT xA xP xR cI thr mS mSv (nI q) mBf kLn mTl mAl mPl kBs kLf kAt kWl mRd kRm hsh) (fun v w9 => v = some (.int (mMr n P w mPl)) ∧ ∃ (al9 tl9 : Nat → Int32) (lf9 bs9 : Int32) (pl9 : Nat → Int32), (P w 5 = -1 → pl9 = (mRm n P w mPl).2) ∧ w9 = MdW om xS xV xB xT xA xP xR cI thr mS mSv (nI q) mBf kLn tl9 al9 pl9 bs9 lf9 kAt kWl mRd kRm hsh) H locs (F0 m 0 ls []) from body _ _ hP hD hS
  clear hP hD hS
  intro H locs hP hD hS
  refine lv_aload_n hx hb dX5_makesRoom_0 rfl (lv_at hl 0 rfl) ?_
  refine lv_iload_n hx hb dX5_makesRoom_1 rfl (lv_at hl 1 rfl) ?_
  have hmd : md_in (MdW om xS xV xB xT xA xP xR cI thr mS mSv (nI q) mBf kLn mTl mAl mPl kBs kLf kAt kWl mRd kRm hsh) [(cI, .int)] om n P := ⟨0, 1, 0, xS, cI, mS, _, rfl, rfl, rfl, rfl, hn8, hQ.1, hQ.2, hbk⟩
  refine rd_callV (As := [.int (nI w)]) (rest := []) ⟨hx, hb, hml, hown, hts⟩ (c_X5_cornerOf l D hmd hw) (cwV 1 hts gX5_makesRoom_X5_cornerOf rfl rfl rfl (by decide +kernel) ⟨by decide, by decide⟩) hK hN hP (q0 := 0) rfl rfl rfl hl.1 rfl (Nat.le_of_ble_eq_true rfl) ⟨by decide, by decide⟩ dX5_makesRoom_2 ?_
  refine lv_iconst (v := (-1)) hx hb dX5_makesRoom_5 (by decide) ?_
  refine lv_icmp_eq (tgt := 11) hx hb dX5_makesRoom_6 (by decide) (fun c_6 => ?_) (fun c_6 => ?_)
  · refine lv_iconst (v := 0) hx hb dX5_makesRoom_11 (by decide) ?_
    refine lv_istore_n (lv' := [(2, .int 0), (0, .ref om), (1, .int (nI w))]) hx hb dX5_makesRoom_12 rfl hl (by decide) rfl (fun ls hl => ?_)
    suffices loop13 : ∀ (k13 i : Nat) (a1 : Nat → Int32) (H : Heap) (locs : List Loc) (ls : Array Slot), i ≤ n → n + 1 ≤ i + k13 → (alI i (alR n P w) a1) → va_P D vwCl (MdW om xS xV xB xT xA xP xR cI thr mS mSv (nI q) mBf kLn mTl a1 mPl kBs kLf kAt kWl mRd kRm hsh) H → va_D (wr_in (MdW om xS xV xB xT xA xP xR cI thr mS mSv (nI q) mBf kLn mTl mAl mPl kBs kLf kAt kWl mRd kRm hsh)) (MdW om xS xV xB xT xA xP xR cI thr mS mSv (nI q) mBf kLn mTl a1 mPl kBs kLf kAt kWl mRd kRm hsh) → va_S (wr_in (MdW om xS xV xB xT xA xP xR cI thr mS mSv (nI q) mBf kLn mTl mAl mPl kBs kLf kAt kWl mRd kRm hsh)) s.heap H locs → lv_has ls 3 [(0, .ref om), (1, .int (nI w)), (2, .int (nI i))] → wr_W p l e wsX5_makesRoom ({ frames := 6, cells := 0, slots := 0, locals := 138 } : Room) s m [.ref om, .int (nI w)] below meth c D (MdW om xS xV xB xT xA xP xR cI thr mS mSv (nI q) mBf kLn mTl mAl mPl kBs kLf kAt kWl mRd kRm hsh) (fun v w9 => v = some (.int (mMr n P w mPl)) ∧ ∃ (al9 tl9 : Nat → Int32) (lf9 bs9 : Int32) (pl9 : Nat → Int32), (P w 5 = -1 → pl9 = (mRm n P w mPl).2) ∧ w9 = MdW om xS xV xB xT xA xP xR cI thr mS mSv (nI q) mBf kLn tl9 al9 pl9 bs9 lf9 kAt kWl mRd kRm hsh) H locs (F0 m 13 ls []) from
      loop13 (n + 1) 0 mAl H locs ls (by omega) (by omega) (by exact fun j hj => absurd hj (by omega)) hP hD hS (lv_sub hl [1, 2, 0] rfl)
    intro k13
    induction k13 with
    | zero => intro i a1 H locs ls h1 h2; exact absurd h2 (by omega)
    | succ k13 ih13 =>
      intro i a1 H locs ls hle13 hlt13 inv13 hP hD hS hl
      refine lv_iload_n hx hb dX5_makesRoom_13 rfl (lv_at hl 2 rfl) ?_
      refine lv_aload_n hx hb dX5_makesRoom_14 rfl (lv_at hl 0 rfl) ?_
      refine va_get (D := D) (ci := 5) (v := .ref xS) (C := RX5) (T := TX5) (N := 16) hx hb hts hinX5 hown hK hP 0 rfl rfl 1 (by decide) hw7 (fun _ h9 => h9) rfl dX5_makesRoom_15 ?_
      refine lv_iconst (v := 0) hx hb dX5_makesRoom_18 (by decide) ?_
      refine rd_ald (q0 := 1) (t0 := 0) (j := 0) (v := nI n) hx hb hK hP rfl rfl (rfl) (by omega) (by decide) (hQ.1) dX5_makesRoom_19 ?_
      refine rd_icmp_ge_n (a := i) (b := n) (tgt := 59) (by omega) (by omega) hx hb dX5_makesRoom_20 (by decide) (fun c_20 => ?_) (fun c_20 => ?_)
      · have c_20n := Nat.not_lt.mpr c_20
        refine lv_aload_n hx hb dX5_makesRoom_59 rfl (lv_at hl 0 rfl) ?_
        refine lv_iconst (v := 1) hx hb dX5_makesRoom_60 (by decide) ?_
        refine wr_callV (As := [.int 1]) (rest := []) ⟨hx, hb, hml, hown, hts⟩ (c_X5_searches (P := P) l D (q := q) hq6 hn8 hQ hbk (lf := 1) (by omega)) (cwV 1 hts gX5_makesRoom_X5_searches rfl rfl rfl (by decide +kernel) ⟨by decide, by decide⟩) hK hN hZ hP hD hS [0, 1, 2, 3, 4, 5, 6, 7] [0] rfl (by decide) rfl (q0 := 0) rfl rfl rfl hl.1 rfl (Nat.le_of_ble_eq_true rfl) ⟨by decide, by decide⟩ dX5_makesRoom_61 (fun v9 w9 H locs hp9 hP hD hS => ?_)
        obtain ⟨rfl, tl9, rfl⟩ := hp9
        have hP : va_P D vwCl (MdW om xS xV xB xT xA xP xR cI thr mS mSv (nI q) mBf kLn tl9 a1 ((srM 1 n a1 P n 0 (fun _ => 0) (-1, mPl)).2) ((srM 1 n a1 P n 0 (fun _ => 0) (-1, mPl)).1) 1 kAt kWl mRd kRm hsh) H := hP
        have hD : va_D (wr_in (MdW om xS xV xB xT xA xP xR cI thr mS mSv (nI q) mBf kLn mTl mAl mPl kBs kLf kAt kWl mRd kRm hsh)) (MdW om xS xV xB xT xA xP xR cI thr mS mSv (nI q) mBf kLn tl9 a1 ((srM 1 n a1 P n 0 (fun _ => 0) (-1, mPl)).2) ((srM 1 n a1 P n 0 (fun _ => 0) (-1, mPl)).1) 1 kAt kWl mRd kRm hsh) := hD
        refine W.eq (g2 := F0 m 64 ls [.int ((srM 1 n a1 P n 0 (fun _ => 0) (-1, mPl)).1)]) rfl ?_
        exact wr_iret hx hb hr hlocks hP hS rfl dX5_makesRoom_64 (by exact ⟨by rw [srM_al inv13 c_20]; simp [mMr, mRm, c_6], _, _, _, _, _, fun _ => by rw [srM_al inv13 c_20]; rfl, rfl⟩)
      · have c_20n := Nat.not_le.mpr c_20
        refine lv_aload_n hx hb dX5_makesRoom_23 rfl (lv_at hl 0 rfl) ?_
        refine va_get (D := D) (ci := 5) (v := .ref xA) (C := RX5) (T := TX5) (N := 16) hx hb hts hinX5 hown hK hP 0 rfl rfl 7 (by decide) hw22 (fun _ h9 => h9) rfl dX5_makesRoom_24 ?_
        refine lv_iload_n hx hb dX5_makesRoom_27 rfl (lv_at hl 2 rfl) ?_
        suffices j52 : ∀ ls : Array Slot, lv_has ls 3 [(0, .ref om), (1, .int (nI w)), (2, .int (nI i))] → wr_W p l e wsX5_makesRoom ({ frames := 6, cells := 0, slots := 0, locals := 138 } : Room) s m [.ref om, .int (nI w)] below meth c D (MdW om xS xV xB xT xA xP xR cI thr mS mSv (nI q) mBf kLn mTl mAl mPl kBs kLf kAt kWl mRd kRm hsh) (fun v w9 => v = some (.int (mMr n P w mPl)) ∧ ∃ (al9 tl9 : Nat → Int32) (lf9 bs9 : Int32) (pl9 : Nat → Int32), (P w 5 = -1 → pl9 = (mRm n P w mPl).2) ∧ w9 = MdW om xS xV xB xT xA xP xR cI thr mS mSv (nI q) mBf kLn tl9 al9 pl9 bs9 lf9 kAt kWl mRd kRm hsh) H locs (F0 m 52 ls [.int (alR n P w i), .int (nI i), .ref xA]) by
          refine lv_iload_n hx hb dX5_makesRoom_28 rfl (lv_at hl 2 rfl) ?_
          refine lv_iload_n hx hb dX5_makesRoom_29 rfl (lv_at hl 1 rfl) ?_
          refine rd_icmp_eq_n (a := i) (b := w) (tgt := 42) (by omega) (by omega) hx hb dX5_makesRoom_30 (by decide) (fun c_30 => ?_) (fun c_30 => ?_)
          · refine lv_aload_n hx hb dX5_makesRoom_42 rfl (lv_at hl 0 rfl) ?_
            refine lv_iload_n hx hb dX5_makesRoom_43 rfl (lv_at hl 2 rfl) ?_
            have hmd : md_in (MdW om xS xV xB xT xA xP xR cI thr mS mSv (nI q) mBf kLn mTl a1 mPl kBs kLf kAt kWl mRd kRm hsh) [(cI, .int)] om n P := ⟨0, 1, 0, xS, cI, mS, _, rfl, rfl, rfl, rfl, hn8, hQ.1, hQ.2, hbk⟩
            refine rd_callV (As := [.int (nI i)]) (rest := [.int (nI i), .ref xA]) ⟨hx, hb, hml, hown, hts⟩ (c_X5_openOf l D hmd c_20) (cwV 1 hts gX5_makesRoom_X5_openOf rfl rfl rfl (by decide +kernel) ⟨by decide, by decide⟩) hK hN hP (q0 := 0) rfl rfl rfl hl.1 rfl (Nat.le_of_ble_eq_true rfl) ⟨by decide, by decide⟩ dX5_makesRoom_44 ?_
            refine lv_goto (tgt := 52) hx hb dX5_makesRoom_47 (by decide) ?_
            refine lv_asi (y := alR n P w i) (by simp [alR, mrz, c_30]) ?_
            exact j52 ls (lv_sub hl [0, 1, 2] rfl)
          · refine lv_aload_n hx hb dX5_makesRoom_33 rfl (lv_at hl 0 rfl) ?_
            refine lv_iload_n hx hb dX5_makesRoom_34 rfl (lv_at hl 2 rfl) ?_
            have hmd : md_in (MdW om xS xV xB xT xA xP xR cI thr mS mSv (nI q) mBf kLn mTl a1 mPl kBs kLf kAt kWl mRd kRm hsh) [(cI, .int)] om n P := ⟨0, 1, 0, xS, cI, mS, _, rfl, rfl, rfl, rfl, hn8, hQ.1, hQ.2, hbk⟩
            refine rd_callV (As := [.int (nI i)]) (rest := [.int (nI i), .ref xA]) ⟨hx, hb, hml, hown, hts⟩ (c_X5_cornerOf l D hmd c_20) (cwV 1 hts gX5_makesRoom_X5_cornerOf rfl rfl rfl (by decide +kernel) ⟨by decide, by decide⟩) hK hN hP (q0 := 0) rfl rfl rfl hl.1 rfl (Nat.le_of_ble_eq_true rfl) ⟨by decide, by decide⟩ dX5_makesRoom_35 ?_
            refine lv_iconst (v := (-1)) hx hb dX5_makesRoom_38 (by decide) ?_
            refine lv_icmp_eq (tgt := 50) hx hb dX5_makesRoom_39 (by decide) (fun c_39 => ?_) (fun c_39 => ?_)
            · refine lv_bipush (v := 16) hx hb dX5_makesRoom_50 (by decide) ?_
              refine lv_asi (y := alR n P w i) (by simp [alR, mrz, c_30, c_39]) ?_
              exact j52 ls (lv_sub hl [0, 1, 2] rfl)
            · refine lv_aload_n hx hb dX5_makesRoom_42 rfl (lv_at hl 0 rfl) ?_
              refine lv_iload_n hx hb dX5_makesRoom_43 rfl (lv_at hl 2 rfl) ?_
              have hmd : md_in (MdW om xS xV xB xT xA xP xR cI thr mS mSv (nI q) mBf kLn mTl a1 mPl kBs kLf kAt kWl mRd kRm hsh) [(cI, .int)] om n P := ⟨0, 1, 0, xS, cI, mS, _, rfl, rfl, rfl, rfl, hn8, hQ.1, hQ.2, hbk⟩
              refine rd_callV (As := [.int (nI i)]) (rest := [.int (nI i), .ref xA]) ⟨hx, hb, hml, hown, hts⟩ (c_X5_openOf l D hmd c_20) (cwV 1 hts gX5_makesRoom_X5_openOf rfl rfl rfl (by decide +kernel) ⟨by decide, by decide⟩) hK hN hP (q0 := 0) rfl rfl rfl hl.1 rfl (Nat.le_of_ble_eq_true rfl) ⟨by decide, by decide⟩ dX5_makesRoom_44 ?_
              refine lv_goto (tgt := 52) hx hb dX5_makesRoom_47 (by decide) ?_
              refine lv_asi (y := alR n P w i) (by simp [alR, mrz, c_30, c_39]) ?_
              exact j52 ls (lv_sub hl [0, 1, 2] rfl)
        intro ls hl
        refine wr_ast (q0 := 5) (t0 := 0) (j := i) hx hb hK hP hD hS rfl rfl (rfl) (by omega) (by decide) dX5_makesRoom_52 (fun H locs hP hD hS => ?_)
        obtain ⟨mAl_52, emAl_52⟩ : ∃ zz9 : Nat → Int32, zz9 = upd a1 i (alR n P w i) := ⟨_, rfl⟩
        rw [← emAl_52] at hP hD
        have hP : va_P D vwCl (MdW om xS xV xB xT xA xP xR cI thr mS mSv (nI q) mBf kLn mTl mAl_52 mPl kBs kLf kAt kWl mRd kRm hsh) H := hP
        have hD : va_D (wr_in (MdW om xS xV xB xT xA xP xR cI thr mS mSv (nI q) mBf kLn mTl mAl mPl kBs kLf kAt kWl mRd kRm hsh)) (MdW om xS xV xB xT xA xP xR cI thr mS mSv (nI q) mBf kLn mTl mAl_52 mPl kBs kLf kAt kWl mRd kRm hsh) := hD
        refine lv_iinc (v := nI (i + 1)) (lv' := [(2, .int (nI (i + 1))), (0, .ref om), (1, .int (nI w))]) hx hb dX5_makesRoom_53 hl (k := 2) rfl (nI_add i 1) (by decide) rfl (fun ls hl => ?_)
        refine lv_goto (tgt := 13) hx hb dX5_makesRoom_56 (by decide) ?_
        exact ih13 (i + 1) mAl_52 H locs ls (by omega) (by omega) (by exact alI_step inv13 emAl_52 rfl) hP hD hS (lv_sub hl [1, 2, 0] rfl)
  · refine lv_iconst (v := (-1)) hx hb dX5_makesRoom_9 (by decide) ?_
    exact wr_iret hx hb hr hlocks hP hS rfl dX5_makesRoom_10 (by exact ⟨by simp [mMr, c_6], _, _, _, _, _, fun z => absurd z c_6, rfl⟩)
set_option maxHeartbeats 4000000 in
set_option maxRecDepth 100000 in
theorem c_X5_lays (l : Launch) (D : va_G) {om xS xV xB xT xA xP xR : Nat} {cI : ClassId} {thr kLn kBs kLf kAt kWl kRm : Int32} {hsh : Int64} {mS mSv mBf mTl mAl mPl mRd : Nat → Int32} {n : Nat} {P : Nat → Nat → Int32} {q : Nat} (hq6 : q ≤ 6) (hn8 : n ≤ 8) (hQ : mdS n P mS) (hbk : bd_ok n P) : wr_M l yX5_lays wsX5_lays ({ frames := 1, cells := 0, slots := 0, locals := 22 } : Room) D (MdW om xS xV xB xT xA xP xR cI thr mS mSv (nI q) mBf kLn mTl mAl mPl kBs kLf kAt kWl mRd kRm hsh) [(cI, .int)] [.ref om] (fun v w9 => v = none ∧ ∃ S9 : Nat → Int32, mdS n (mLy P mPl) S9 ∧ w9 = MdW om xS xV xB xT xA xP xR cI thr S9 mSv (nI q) mBf kLn mTl mAl mPl kBs kLf kAt kWl mRd kRm hsh) := by
  refine wr_of (cc := cX5_lays) (maxL := 2) (ret := none) (by decide) rfl (Nat.le_of_ble_eq_true rfl) ?_
  intro p e s m below meth c hx hb hr hml hts hown hlocks hP hK hN hZ hD hS ls hl
  have hown : s.vm.findClass RX5 = some m.cls := hown
  have hl : lv_has ls 2 [(0, .ref om)] := hl
  have hinX5 : ∀ w ∈ u_ws RX5 TX5 16, w ∈ wsX5_lays := by decide +kernel
  have hw7 := hts (.fieldLink RX5 7 "CornerLabelsModel" "s" "[I") (by decide +kernel)
  have hw25 := hts (.fieldLink RX5 25 "CornerLabelsModel" "plan" "[I") (by decide +kernel)
  suffices body : ∀ (H : Heap) (locs : List Loc), va_P D vwCl (MdW om xS xV xB xT xA xP xR cI thr mS mSv (nI q) mBf kLn mTl mAl mPl kBs kLf kAt kWl mRd kRm hsh) H → va_D (wr_in (MdW om xS xV xB xT xA xP xR cI thr mS mSv (nI q) mBf kLn mTl mAl mPl kBs kLf kAt kWl mRd kRm hsh)) (MdW om xS xV xB xT xA xP xR cI thr mS mSv (nI q) mBf kLn mTl mAl mPl kBs kLf kAt kWl mRd kRm hsh) → va_S (wr_in (MdW om xS xV xB xT xA xP xR cI thr mS mSv (nI q) mBf kLn mTl mAl mPl kBs kLf kAt kWl mRd kRm hsh)) s.heap H locs → wr_W p l e wsX5_lays ({ frames := 1, cells := 0, slots := 0, locals := 22 } : Room) s m [.ref om] below meth c D (MdW om xS xV xB xT xA xP xR cI thr mS mSv (nI q) mBf kLn mTl mAl mPl kBs kLf kAt kWl mRd kRm hsh) (fun v w9 => v = none ∧ ∃ S9 : Nat → Int32, mdS n (mLy P mPl) S9 ∧ w9 = MdW om xS xV xB xT xA xP xR cI thr S9 mSv (nI q) mBf kLn mTl mAl mPl kBs kLf kAt kWl mRd kRm hsh) H locs (F0 m 0 ls []) from body _ _ hP hD hS
  clear hP hD hS
  intro H locs hP hD hS
  refine lv_iconst (v := 0) hx hb dX5_lays_0 (by decide) ?_
  refine lv_istore_n (lv' := [(1, .int 0), (0, .ref om)]) hx hb dX5_lays_1 rfl hl (by decide) rfl (fun ls hl => ?_)
  suffices loop2 : ∀ (k2 i : Nat) (S1 : Nat → Int32) (H : Heap) (locs : List Loc) (ls : Array Slot), i ≤ n → n + 1 ≤ i + k2 → (mdS n (mLq P mPl i) S1) → va_P D vwCl (MdW om xS xV xB xT xA xP xR cI thr S1 mSv (nI q) mBf kLn mTl mAl mPl kBs kLf kAt kWl mRd kRm hsh) H → va_D (wr_in (MdW om xS xV xB xT xA xP xR cI thr mS mSv (nI q) mBf kLn mTl mAl mPl kBs kLf kAt kWl mRd kRm hsh)) (MdW om xS xV xB xT xA xP xR cI thr S1 mSv (nI q) mBf kLn mTl mAl mPl kBs kLf kAt kWl mRd kRm hsh) → va_S (wr_in (MdW om xS xV xB xT xA xP xR cI thr mS mSv (nI q) mBf kLn mTl mAl mPl kBs kLf kAt kWl mRd kRm hsh)) s.heap H locs → lv_has ls 2 [(0, .ref om), (1, .int (nI i))] → wr_W p l e wsX5_lays ({ frames := 1, cells := 0, slots := 0, locals := 22 } : Room) s m [.ref om] below meth c D (MdW om xS xV xB xT xA xP xR cI thr mS mSv (nI q) mBf kLn mTl mAl mPl kBs kLf kAt kWl mRd kRm hsh) (fun v w9 => v = none ∧ ∃ S9 : Nat → Int32, mdS n (mLy P mPl) S9 ∧ w9 = MdW om xS xV xB xT xA xP xR cI thr S9 mSv (nI q) mBf kLn mTl mAl mPl kBs kLf kAt kWl mRd kRm hsh) H locs (F0 m 2 ls []) from
    loop2 (n + 1) 0 mS H locs ls (by omega) (by omega) (by exact mLq_init hQ) hP hD hS (lv_sub hl [1, 0] rfl)
  intro k2
  induction k2 with
  | zero => intro i S1 H locs ls h1 h2; exact absurd h2 (by omega)
  | succ k2 ih2 =>
    intro i S1 H locs ls hle2 hlt2 inv2 hP hD hS hl
    refine lv_iload_n hx hb dX5_lays_2 rfl (lv_at hl 1 rfl) ?_
    refine lv_aload_n hx hb dX5_lays_3 rfl (lv_at hl 0 rfl) ?_
    refine va_get (D := D) (ci := 5) (v := .ref xS) (C := RX5) (T := TX5) (N := 16) hx hb hts hinX5 hown hK hP 0 rfl rfl 1 (by decide) hw7 (fun _ h9 => h9) rfl dX5_lays_4 ?_
    refine lv_iconst (v := 0) hx hb dX5_lays_7 (by decide) ?_
    refine rd_ald (q0 := 1) (t0 := 0) (j := 0) (v := nI n) hx hb hK hP rfl rfl (rfl) (by omega) (by decide) (inv2.1) dX5_lays_8 ?_
    refine rd_icmp_ge_n (a := i) (b := n) (tgt := 43) (by omega) (by omega) hx hb dX5_lays_9 (by decide) (fun c_9 => ?_) (fun c_9 => ?_)
    · have c_9n := Nat.not_lt.mpr c_9
      exact wr_vret hx hb hr hlocks hP hS rfl dX5_lays_43 (by exact ⟨rfl, S1, mLq_fin c_9 inv2, rfl⟩)
    · have c_9n := Nat.not_le.mpr c_9
      refine lv_aload_n hx hb dX5_lays_12 rfl (lv_at hl 0 rfl) ?_
      refine lv_iload_n hx hb dX5_lays_13 rfl (lv_at hl 1 rfl) ?_
      suffices j34 : ∀ ls : Array Slot, lv_has ls 2 [(0, .ref om), (1, .int (nI i))] → wr_W p l e wsX5_lays ({ frames := 1, cells := 0, slots := 0, locals := 22 } : Room) s m [.ref om] below meth c D (MdW om xS xV xB xT xA xP xR cI thr mS mSv (nI q) mBf kLn mTl mAl mPl kBs kLf kAt kWl mRd kRm hsh) (fun v w9 => v = none ∧ ∃ S9 : Nat → Int32, mdS n (mLy P mPl) S9 ∧ w9 = MdW om xS xV xB xT xA xP xR cI thr S9 mSv (nI q) mBf kLn mTl mAl mPl kBs kLf kAt kWl mRd kRm hsh) H locs (F0 m 34 ls [.int (if mPl i = 4 then -1 else mPl i), .int (nI i), .ref om]) by
        refine lv_aload_n hx hb dX5_lays_14 rfl (lv_at hl 0 rfl) ?_
        refine va_get (D := D) (ci := 5) (v := .ref xP) (C := RX5) (T := TX5) (N := 16) hx hb hts hinX5 hown hK hP 0 rfl rfl 8 (by decide) hw25 (fun _ h9 => h9) rfl dX5_lays_15 ?_
        refine lv_iload_n hx hb dX5_lays_18 rfl (lv_at hl 1 rfl) ?_
        refine rd_ald (q0 := 6) (t0 := 0) (j := i) (v := mPl i) hx hb hK hP rfl rfl (rfl) (by omega) (by decide) (rfl) dX5_lays_19 ?_
        refine lv_iconst (v := 4) hx hb dX5_lays_20 (by decide) ?_
        refine lv_icmp_ne (tgt := 28) hx hb dX5_lays_21 (by decide) (fun c_21 => ?_) (fun c_21 => ?_)
        · refine lv_aload_n hx hb dX5_lays_28 rfl (lv_at hl 0 rfl) ?_
          refine va_get (D := D) (ci := 5) (v := .ref xP) (C := RX5) (T := TX5) (N := 16) hx hb hts hinX5 hown hK hP 0 rfl rfl 8 (by decide) hw25 (fun _ h9 => h9) rfl dX5_lays_29 ?_
          refine lv_iload_n hx hb dX5_lays_32 rfl (lv_at hl 1 rfl) ?_
          refine rd_ald (q0 := 6) (t0 := 0) (j := i) (v := mPl i) hx hb hK hP rfl rfl (rfl) (by omega) (by decide) (rfl) dX5_lays_33 ?_
          refine lv_asi (y := if mPl i = 4 then -1 else mPl i) (by simp [c_21]) ?_
          exact j34 ls (lv_sub hl [0, 1] rfl)
        · refine lv_iconst (v := (-1)) hx hb dX5_lays_24 (by decide) ?_
          refine lv_goto (tgt := 34) hx hb dX5_lays_25 (by decide) ?_
          refine lv_asi (y := if mPl i = 4 then -1 else mPl i) (by simp [c_21]) ?_
          exact j34 ls (lv_sub hl [0, 1] rfl)
      intro ls hl
      refine wr_callV (As := [.int (nI i), .int (if mPl i = 4 then -1 else mPl i)]) (rest := []) ⟨hx, hb, hml, hown, hts⟩ (c_X5_stands l D (i := i) (by omega) (if mPl i = 4 then -1 else mPl i)) (cwV 2 hts gX5_lays_X5_stands rfl rfl rfl (by decide +kernel) ⟨by decide, by decide⟩) hK hN hZ hP hD hS [0, 1, 2, 3, 4, 5, 6, 7] [0] rfl (by decide) rfl (q0 := 0) rfl rfl rfl hl.1 rfl (Nat.le_of_ble_eq_true rfl) ⟨by decide, by decide⟩ dX5_lays_34 (fun v9 w9 H locs hp9 hP hD hS => ?_)
      obtain ⟨rfl, rfl⟩ := hp9
      obtain ⟨mS_34, emS_34⟩ : ∃ zz9 : Nat → Int32, zz9 = upd S1 (1 + 6 * i + 5) ((if mPl i = 4 then -1 else mPl i) + 1) := ⟨_, rfl⟩
      rw [← emS_34] at hP hD
      have hP : va_P D vwCl (MdW om xS xV xB xT xA xP xR cI thr mS_34 mSv (nI q) mBf kLn mTl mAl mPl kBs kLf kAt kWl mRd kRm hsh) H := hP
      have hD : va_D (wr_in (MdW om xS xV xB xT xA xP xR cI thr mS mSv (nI q) mBf kLn mTl mAl mPl kBs kLf kAt kWl mRd kRm hsh)) (MdW om xS xV xB xT xA xP xR cI thr mS_34 mSv (nI q) mBf kLn mTl mAl mPl kBs kLf kAt kWl mRd kRm hsh) := hD
      refine W.eq (g2 := F0 m 37 ls []) rfl ?_
      refine lv_iinc (v := nI (i + 1)) (lv' := [(1, .int (nI (i + 1))), (0, .ref om)]) hx hb dX5_lays_37 hl (k := 1) rfl (nI_add i 1) (by decide) rfl (fun ls hl => ?_)
      refine lv_goto (tgt := 2) hx hb dX5_lays_40 (by decide) ?_
      exact ih2 (i + 1) mS_34 H locs ls (by omega) (by omega) (by exact mLq_step c_9 inv2 emS_34) hP hD hS (lv_sub hl [1, 0] rfl)
set_option maxHeartbeats 4000000 in
set_option maxRecDepth 100000 in
theorem c_X5_solve (l : Launch) (D : va_G) {om xS xV xB xT xA xP xR : Nat} {cI : ClassId} {thr kLn kBs kLf kAt kWl kRm : Int32} {hsh : Int64} {mS mSv mBf mTl mAl mPl mRd : Nat → Int32} {n : Nat} {P : Nat → Nat → Int32} {q : Nat} (hq6 : q ≤ 6) (hn8 : n ≤ 8) (hQ : mdS n P mS) (hbk : bd_ok n P) : wr_M l yX5_solve wsX5_solve ({ frames := 7, cells := 0, slots := 0, locals := 160 } : Room) D (MdW om xS xV xB xT xA xP xR cI thr mS mSv (nI q) mBf kLn mTl mAl mPl kBs kLf kAt kWl mRd kRm hsh) [(cI, .int)] [.ref om] (fun v w9 => v = some (.int (mHv n P (-1) mPl).1) ∧ ∃ (al9 tl9 S9 : Nat → Int32), mdS n (mLy P (mHv n P (-1) mPl).2) S9 ∧ w9 = MdW om xS xV xB xT xA xP xR cI 0 S9 (svF q mSv mS) (nI ((if q < 6 then q else 5) + 1)) mBf kLn tl9 al9 ((mHv n P (-1) mPl).2) ((mHv n P (-1) mPl).1) 0 kAt kWl mRd kRm hsh) := by
  refine wr_of (cc := cX5_solve) (maxL := 2) (ret := some .int) (by decide) rfl (Nat.le_of_ble_eq_true rfl) ?_
  intro p e s m below meth c hx hb hr hml hts hown hlocks hP hK hN hZ hD hS ls hl
  have hown : s.vm.findClass RX5 = some m.cls := hown
  have hl : lv_has ls 2 [(0, .ref om)] := hl
  have hinX5 : ∀ w ∈ u_ws RX5 TX5 16, w ∈ wsX5_solve := by decide +kernel
  have hw31 := hts (.fieldLink RX5 31 "CornerLabelsModel" "thrown" "I") (by decide +kernel)
  suffices body : ∀ (H : Heap) (locs : List Loc), va_P D vwCl (MdW om xS xV xB xT xA xP xR cI thr mS mSv (nI q) mBf kLn mTl mAl mPl kBs kLf kAt kWl mRd kRm hsh) H → va_D (wr_in (MdW om xS xV xB xT xA xP xR cI thr mS mSv (nI q) mBf kLn mTl mAl mPl kBs kLf kAt kWl mRd kRm hsh)) (MdW om xS xV xB xT xA xP xR cI thr mS mSv (nI q) mBf kLn mTl mAl mPl kBs kLf kAt kWl mRd kRm hsh) → va_S (wr_in (MdW om xS xV xB xT xA xP xR cI thr mS mSv (nI q) mBf kLn mTl mAl mPl kBs kLf kAt kWl mRd kRm hsh)) s.heap H locs → wr_W p l e wsX5_solve ({ frames := 7, cells := 0, slots := 0, locals := 160 } : Room) s m [.ref om] below meth c D (MdW om xS xV xB xT xA xP xR cI thr mS mSv (nI q) mBf kLn mTl mAl mPl kBs kLf kAt kWl mRd kRm hsh) (fun v w9 => v = some (.int (mHv n P (-1) mPl).1) ∧ ∃ (al9 tl9 S9 : Nat → Int32), mdS n (mLy P (mHv n P (-1) mPl).2) S9 ∧ w9 = MdW om xS xV xB xT xA xP xR cI 0 S9 (svF q mSv mS) (nI ((if q < 6 then q else 5) + 1)) mBf kLn tl9 al9 ((mHv n P (-1) mPl).2) ((mHv n P (-1) mPl).1) 0 kAt kWl mRd kRm hsh) H locs (F0 m 0 ls []) from body _ _ hP hD hS
  clear hP hD hS
  intro H locs hP hD hS
  refine lv_aload_n hx hb dX5_solve_0 rfl (lv_at hl 0 rfl) ?_
  refine lv_iconst (v := 0) hx hb dX5_solve_1 (by decide) ?_
  refine va_put (D := D) (ci := 5) (v := .int 0) (ty := .int) (C := RX5) (T := TX5) (N := 16) hx hb hts hinX5 tyX5 tyX5_ok nmX5 hown hK hP hD hS 0 rfl rfl 0 (by decide) hw31 (fun _ h9 => h9) rfl (by decide +kernel) rfl rfl (Nat.le_of_ble_eq_true rfl) dX5_solve_2 (fun H locs hP hD hS => ?_)
  have hP : va_P D vwCl (MdW om xS xV xB xT xA xP xR cI 0 mS mSv (nI q) mBf kLn mTl mAl mPl kBs kLf kAt kWl mRd kRm hsh) H := hP
  have hD : va_D (wr_in (MdW om xS xV xB xT xA xP xR cI thr mS mSv (nI q) mBf kLn mTl mAl mPl kBs kLf kAt kWl mRd kRm hsh)) (MdW om xS xV xB xT xA xP xR cI 0 mS mSv (nI q) mBf kLn mTl mAl mPl kBs kLf kAt kWl mRd kRm hsh) := hD
  refine lv_aload_n hx hb dX5_solve_5 rfl (lv_at hl 0 rfl) ?_
  refine wr_callV (As := []) (rest := []) ⟨hx, hb, hml, hown, hts⟩ (c_X5_saves l D (q := q) hq6) (cwV 0 hts gX5_solve_X5_saves rfl rfl rfl (by decide +kernel) ⟨by decide, by decide⟩) hK hN hZ hP hD hS [0, 1, 2, 3, 4, 5, 6, 7] [0] rfl (by decide) rfl (q0 := 0) rfl rfl rfl hl.1 rfl (Nat.le_of_ble_eq_true rfl) ⟨by decide, by decide⟩ dX5_solve_6 (fun v9 w9 H locs hp9 hP hD hS => ?_)
  obtain ⟨rfl, rfl⟩ := hp9
  have hP : va_P D vwCl (MdW om xS xV xB xT xA xP xR cI 0 mS (svF q mSv mS) (nI ((if q < 6 then q else 5) + 1)) mBf kLn mTl mAl mPl kBs kLf kAt kWl mRd kRm hsh) H := hP
  have hD : va_D (wr_in (MdW om xS xV xB xT xA xP xR cI thr mS mSv (nI q) mBf kLn mTl mAl mPl kBs kLf kAt kWl mRd kRm hsh)) (MdW om xS xV xB xT xA xP xR cI 0 mS (svF q mSv mS) (nI ((if q < 6 then q else 5) + 1)) mBf kLn mTl mAl mPl kBs kLf kAt kWl mRd kRm hsh) := hD
  refine W.eq (g2 := F0 m 9 ls []) rfl ?_
  refine lv_aload_n hx hb dX5_solve_9 rfl (lv_at hl 0 rfl) ?_
  refine lv_iconst (v := (-1)) hx hb dX5_solve_10 (by decide) ?_
  refine wr_callV (As := [.int (-1)]) (rest := []) ⟨hx, hb, hml, hown, hts⟩ (c_X5_heaviest (P := P) l D (q := ((if q < 6 then q else 5) + 1)) (by split <;> omega) hn8 hQ hbk (-1)) (cwV 1 hts gX5_solve_X5_heaviest rfl rfl rfl (by decide +kernel) ⟨by decide, by decide⟩) hK hN hZ hP hD hS [0, 1, 2, 3, 4, 5, 6, 7] [0] rfl (by decide) rfl (q0 := 0) rfl rfl rfl hl.1 rfl (Nat.le_of_ble_eq_true rfl) ⟨by decide, by decide⟩ dX5_solve_11 (fun v9 w9 H locs hp9 hP hD hS => ?_)
  obtain ⟨rfl, al11, tl11, rfl⟩ := hp9
  have hP : va_P D vwCl (MdW om xS xV xB xT xA xP xR cI 0 mS (svF q mSv mS) (nI ((if q < 6 then q else 5) + 1)) mBf kLn tl11 al11 ((mHv n P (-1) mPl).2) ((mHv n P (-1) mPl).1) 0 kAt kWl mRd kRm hsh) H := hP
  have hD : va_D (wr_in (MdW om xS xV xB xT xA xP xR cI thr mS mSv (nI q) mBf kLn mTl mAl mPl kBs kLf kAt kWl mRd kRm hsh)) (MdW om xS xV xB xT xA xP xR cI 0 mS (svF q mSv mS) (nI ((if q < 6 then q else 5) + 1)) mBf kLn tl11 al11 ((mHv n P (-1) mPl).2) ((mHv n P (-1) mPl).1) 0 kAt kWl mRd kRm hsh) := hD
  refine W.eq (g2 := F0 m 14 ls [.int ((mHv n P (-1) mPl).1)]) rfl ?_
  refine lv_istore_n (lv' := [(1, .int ((mHv n P (-1) mPl).1)), (0, .ref om)]) hx hb dX5_solve_14 rfl hl (by decide) rfl (fun ls hl => ?_)
  refine lv_aload_n hx hb dX5_solve_15 rfl (lv_at hl 1 rfl) ?_
  refine wr_callV (As := []) (rest := []) ⟨hx, hb, hml, hown, hts⟩ (c_X5_lays (P := P) l D (q := ((if q < 6 then q else 5) + 1)) (by split <;> omega) hn8 hQ hbk) (cwV 0 hts gX5_solve_X5_lays rfl rfl rfl (by decide +kernel) ⟨by decide, by decide⟩) hK hN hZ hP hD hS [0, 1, 2, 3, 4, 5, 6, 7] [0] rfl (by decide) rfl (q0 := 0) rfl rfl rfl hl.1 rfl (Nat.le_of_ble_eq_true rfl) ⟨by decide, by decide⟩ dX5_solve_16 (fun v9 w9 H locs hp9 hP hD hS => ?_)
  obtain ⟨rfl, S9, hS9, rfl⟩ := hp9
  have hP : va_P D vwCl (MdW om xS xV xB xT xA xP xR cI 0 S9 (svF q mSv mS) (nI ((if q < 6 then q else 5) + 1)) mBf kLn tl11 al11 ((mHv n P (-1) mPl).2) ((mHv n P (-1) mPl).1) 0 kAt kWl mRd kRm hsh) H := hP
  have hD : va_D (wr_in (MdW om xS xV xB xT xA xP xR cI thr mS mSv (nI q) mBf kLn mTl mAl mPl kBs kLf kAt kWl mRd kRm hsh)) (MdW om xS xV xB xT xA xP xR cI 0 S9 (svF q mSv mS) (nI ((if q < 6 then q else 5) + 1)) mBf kLn tl11 al11 ((mHv n P (-1) mPl).2) ((mHv n P (-1) mPl).1) 0 kAt kWl mRd kRm hsh) := hD
  refine W.eq (g2 := F0 m 19 ls []) rfl ?_
  refine lv_iload_n hx hb dX5_solve_19 rfl (lv_at hl 0 rfl) ?_
  exact wr_iret hx hb hr hlocks hP hS rfl dX5_solve_20 (by exact ⟨rfl, _, _, S9, hS9, rfl⟩)
set_option maxHeartbeats 4000000 in
set_option maxRecDepth 100000 in
theorem c_X5_push (l : Launch) (D : va_G) {om xS xV xB xT xA xP xR : Nat} {cI : ClassId} {thr kLn kBs kLf kAt kWl kRm : Int32} {hsh : Int64} {mS mSv mBf mTl mAl mPl mRd : Nat → Int32} {n : Nat} {P : Nat → Nat → Int32} {q : Nat} (hq6 : q ≤ 6) (hn8 : n ≤ 8) (hQ : mdS n P mS) (hbk : bd_ok n P) (x : Int32) : wr_M l yX5_push wsX5_push ({ frames := 7, cells := 0, slots := 0, locals := 160 } : Room) D (MdW om xS xV xB xT xA xP xR cI thr mS mSv (nI q) mBf kLn mTl mAl mPl kBs kLf kAt kWl mRd kRm hsh) [(cI, .int)] [.ref om, .int x] (fun v w9 => (gHas n x = false ∧ v = some (.int 0) ∧ w9 = MdW om xS xV xB xT xA xP xR cI 1 mS mSv (nI q) mBf kLn mTl mAl mPl kBs kLf kAt kWl mRd kRm hsh) ∨ (∃ i, i < n ∧ x = nI i ∧ ((mMr n P i mPl = -1 ∧ v = some (.int 0) ∧ ∃ (al9 tl9 : Nat → Int32) (lf9 bs9 : Int32) (pl9 : Nat → Int32), w9 = MdW om xS xV xB xT xA xP xR cI 2 mS mSv (nI q) mBf kLn tl9 al9 pl9 bs9 lf9 kAt kWl mRd kRm hsh) ∨ (¬ mMr n P i mPl = -1 ∧ v = some (.int (mMr n P i mPl)) ∧ ∃ (al9 tl9 : Nat → Int32) (lf9 bs9 : Int32) (pl9 S9 : Nat → Int32), pl9 = (mRm n P i mPl).2 ∧ mdS n (mLy P pl9) S9 ∧ w9 = MdW om xS xV xB xT xA xP xR cI 0 S9 (svF q mSv mS) (nI ((if q < 6 then q else 5) + 1)) mBf kLn tl9 al9 pl9 bs9 lf9 kAt kWl mRd kRm hsh)))) := by
  refine wr_of (cc := cX5_push) (maxL := 3) (ret := some .int) (by decide) rfl (Nat.le_of_ble_eq_true rfl) ?_
  intro p e s m below meth c hx hb hr hml hts hown hlocks hP hK hN hZ hD hS ls hl
  have hown : s.vm.findClass RX5 = some m.cls := hown
  have hl : lv_has ls 3 [(0, .ref om), (1, .int x)] := hl
  have hinX5 : ∀ w ∈ u_ws RX5 TX5 16, w ∈ wsX5_push := by decide +kernel
  have hw31 := hts (.fieldLink RX5 31 "CornerLabelsModel" "thrown" "I") (by decide +kernel)
  suffices body : ∀ (H : Heap) (locs : List Loc), va_P D vwCl (MdW om xS xV xB xT xA xP xR cI thr mS mSv (nI q) mBf kLn mTl mAl mPl kBs kLf kAt kWl mRd kRm hsh) H → va_D (wr_in (MdW om xS xV xB xT xA xP xR cI thr mS mSv (nI q) mBf kLn mTl mAl mPl kBs kLf kAt kWl mRd kRm hsh)) (MdW om xS xV xB xT xA xP xR cI thr mS mSv (nI q) mBf kLn mTl mAl mPl kBs kLf kAt kWl mRd kRm hsh) → va_S (wr_in (MdW om xS xV xB xT xA xP xR cI thr mS mSv (nI q) mBf kLn mTl mAl mPl kBs kLf kAt kWl mRd kRm hsh)) s.heap H locs → wr_W p l e wsX5_push ({ frames := 7, cells := 0, slots := 0, locals := 160 } : Room) s m [.ref om, .int x] below meth c D (MdW om xS xV xB xT xA xP xR cI thr mS mSv (nI q) mBf kLn mTl mAl mPl kBs kLf kAt kWl mRd kRm hsh) (fun v w9 => (gHas n x = false ∧ v = some (.int 0) ∧ w9 = MdW om xS xV xB xT xA xP xR cI 1 mS mSv (nI q) mBf kLn mTl mAl mPl kBs kLf kAt kWl mRd kRm hsh) ∨ (∃ i, i < n ∧ x = nI i ∧ ((mMr n P i mPl = -1 ∧ v = some (.int 0) ∧ ∃ (al9 tl9 : Nat → Int32) (lf9 bs9 : Int32) (pl9 : Nat → Int32), w9 = MdW om xS xV xB xT xA xP xR cI 2 mS mSv (nI q) mBf kLn tl9 al9 pl9 bs9 lf9 kAt kWl mRd kRm hsh) ∨ (¬ mMr n P i mPl = -1 ∧ v = some (.int (mMr n P i mPl)) ∧ ∃ (al9 tl9 : Nat → Int32) (lf9 bs9 : Int32) (pl9 S9 : Nat → Int32), pl9 = (mRm n P i mPl).2 ∧ mdS n (mLy P pl9) S9 ∧ w9 = MdW om xS xV xB xT xA xP xR cI 0 S9 (svF q mSv mS) (nI ((if q < 6 then q else 5) + 1)) mBf kLn tl9 al9 pl9 bs9 lf9 kAt kWl mRd kRm hsh)))) H locs (F0 m 0 ls []) from body _ _ hP hD hS
  clear hP hD hS
  intro H locs hP hD hS
  refine lv_aload_n hx hb dX5_push_0 rfl (lv_at hl 0 rfl) ?_
  refine lv_iconst (v := 0) hx hb dX5_push_1 (by decide) ?_
  refine va_put (D := D) (ci := 5) (v := .int 0) (ty := .int) (C := RX5) (T := TX5) (N := 16) hx hb hts hinX5 tyX5 tyX5_ok nmX5 hown hK hP hD hS 0 rfl rfl 0 (by decide) hw31 (fun _ h9 => h9) rfl (by decide +kernel) rfl rfl (Nat.le_of_ble_eq_true rfl) dX5_push_2 (fun H locs hP hD hS => ?_)
  have hP : va_P D vwCl (MdW om xS xV xB xT xA xP xR cI 0 mS mSv (nI q) mBf kLn mTl mAl mPl kBs kLf kAt kWl mRd kRm hsh) H := hP
  have hD : va_D (wr_in (MdW om xS xV xB xT xA xP xR cI thr mS mSv (nI q) mBf kLn mTl mAl mPl kBs kLf kAt kWl mRd kRm hsh)) (MdW om xS xV xB xT xA xP xR cI 0 mS mSv (nI q) mBf kLn mTl mAl mPl kBs kLf kAt kWl mRd kRm hsh) := hD
  refine lv_aload_n hx hb dX5_push_5 rfl (lv_at hl 0 rfl) ?_
  refine lv_iload_n hx hb dX5_push_6 rfl (lv_at hl 1 rfl) ?_
  have hmd : md_in (MdW om xS xV xB xT xA xP xR cI 0 mS mSv (nI q) mBf kLn mTl mAl mPl kBs kLf kAt kWl mRd kRm hsh) [(cI, .int)] om n P := ⟨0, 1, 0, xS, cI, mS, _, rfl, rfl, rfl, rfl, hn8, hQ.1, hQ.2, hbk⟩
  refine rd_callV (As := [.int x]) (rest := []) ⟨hx, hb, hml, hown, hts⟩ (c_X5_isPoint l D hmd x) (cwV 1 hts gX5_push_X5_isPoint rfl rfl rfl (by decide +kernel) ⟨by decide, by decide⟩) hK hN hP (q0 := 0) rfl rfl rfl hl.1 rfl (Nat.le_of_ble_eq_true rfl) ⟨by decide, by decide⟩ dX5_push_7 ?_
  refine rd_ifne_b (tgt := 19) hx hb dX5_push_10 (by decide) (fun c_10 => ?_) (fun c_10 => ?_)
  · obtain ⟨i, hi, ei⟩ := (gHas_iff hn8).mp c_10
    rw [ei] at hl
    have hl : lv_has ls 3 [(0, .ref om), (1, .int (nI i))] := hl
    refine lv_aload_n hx hb dX5_push_19 rfl (lv_at hl 0 rfl) ?_
    refine lv_iload_n hx hb dX5_push_20 rfl (lv_at hl 1 rfl) ?_
    refine wr_callV (As := [.int (nI i)]) (rest := []) ⟨hx, hb, hml, hown, hts⟩ (c_X5_makesRoom (P := P) l D (q := q) hq6 hn8 hQ hbk (w := i) hi) (cwV 1 hts gX5_push_X5_makesRoom rfl rfl rfl (by decide +kernel) ⟨by decide, by decide⟩) hK hN hZ hP hD hS [0, 1, 2, 3, 4, 5, 6, 7] [0] rfl (by decide) rfl (q0 := 0) rfl rfl rfl hl.1 rfl (Nat.le_of_ble_eq_true rfl) ⟨by decide, by decide⟩ dX5_push_21 (fun v9 w9 H locs hp9 hP hD hS => ?_)
    obtain ⟨rfl, al21, tl21, lf21, bs21, pl21, hmr, rfl⟩ := hp9
    have hP : va_P D vwCl (MdW om xS xV xB xT xA xP xR cI 0 mS mSv (nI q) mBf kLn tl21 al21 pl21 bs21 lf21 kAt kWl mRd kRm hsh) H := hP
    have hD : va_D (wr_in (MdW om xS xV xB xT xA xP xR cI thr mS mSv (nI q) mBf kLn mTl mAl mPl kBs kLf kAt kWl mRd kRm hsh)) (MdW om xS xV xB xT xA xP xR cI 0 mS mSv (nI q) mBf kLn tl21 al21 pl21 bs21 lf21 kAt kWl mRd kRm hsh) := hD
    refine W.eq (g2 := F0 m 24 ls [.int (mMr n P i mPl)]) rfl ?_
    refine lv_istore_n (lv' := [(2, .int (mMr n P i mPl)), (0, .ref om), (1, .int (nI i))]) hx hb dX5_push_24 rfl hl (by decide) rfl (fun ls hl => ?_)
    refine lv_iload_n hx hb dX5_push_25 rfl (lv_at hl 0 rfl) ?_
    refine lv_iconst (v := (-1)) hx hb dX5_push_26 (by decide) ?_
    refine lv_icmp_ne (tgt := 36) hx hb dX5_push_27 (by decide) (fun c_27 => ?_) (fun c_27 => ?_)
    · refine lv_aload_n hx hb dX5_push_36 rfl (lv_at hl 1 rfl) ?_
      refine wr_callV (As := []) (rest := []) ⟨hx, hb, hml, hown, hts⟩ (c_X5_saves l D (q := q) hq6) (cwV 0 hts gX5_push_X5_saves rfl rfl rfl (by decide +kernel) ⟨by decide, by decide⟩) hK hN hZ hP hD hS [0, 1, 2, 3, 4, 5, 6, 7] [0] rfl (by decide) rfl (q0 := 0) rfl rfl rfl hl.1 rfl (Nat.le_of_ble_eq_true rfl) ⟨by decide, by decide⟩ dX5_push_37 (fun v9 w9 H locs hp9 hP hD hS => ?_)
      obtain ⟨rfl, rfl⟩ := hp9
      have hP : va_P D vwCl (MdW om xS xV xB xT xA xP xR cI 0 mS (svF q mSv mS) (nI ((if q < 6 then q else 5) + 1)) mBf kLn tl21 al21 pl21 bs21 lf21 kAt kWl mRd kRm hsh) H := hP
      have hD : va_D (wr_in (MdW om xS xV xB xT xA xP xR cI thr mS mSv (nI q) mBf kLn mTl mAl mPl kBs kLf kAt kWl mRd kRm hsh)) (MdW om xS xV xB xT xA xP xR cI 0 mS (svF q mSv mS) (nI ((if q < 6 then q else 5) + 1)) mBf kLn tl21 al21 pl21 bs21 lf21 kAt kWl mRd kRm hsh) := hD
      refine W.eq (g2 := F0 m 40 ls []) rfl ?_
      refine lv_aload_n hx hb dX5_push_40 rfl (lv_at hl 1 rfl) ?_
      refine wr_callV (As := []) (rest := []) ⟨hx, hb, hml, hown, hts⟩ (c_X5_lays (P := P) l D (q := ((if q < 6 then q else 5) + 1)) (by split <;> omega) hn8 hQ hbk) (cwV 0 hts gX5_push_X5_lays rfl rfl rfl (by decide +kernel) ⟨by decide, by decide⟩) hK hN hZ hP hD hS [0, 1, 2, 3, 4, 5, 6, 7] [0] rfl (by decide) rfl (q0 := 0) rfl rfl rfl hl.1 rfl (Nat.le_of_ble_eq_true rfl) ⟨by decide, by decide⟩ dX5_push_41 (fun v9 w9 H locs hp9 hP hD hS => ?_)
      obtain ⟨rfl, S9, hS9, rfl⟩ := hp9
      have hP : va_P D vwCl (MdW om xS xV xB xT xA xP xR cI 0 S9 (svF q mSv mS) (nI ((if q < 6 then q else 5) + 1)) mBf kLn tl21 al21 pl21 bs21 lf21 kAt kWl mRd kRm hsh) H := hP
      have hD : va_D (wr_in (MdW om xS xV xB xT xA xP xR cI thr mS mSv (nI q) mBf kLn mTl mAl mPl kBs kLf kAt kWl mRd kRm hsh)) (MdW om xS xV xB xT xA xP xR cI 0 S9 (svF q mSv mS) (nI ((if q < 6 then q else 5) + 1)) mBf kLn tl21 al21 pl21 bs21 lf21 kAt kWl mRd kRm hsh) := hD
      refine W.eq (g2 := F0 m 44 ls []) rfl ?_
      refine lv_iload_n hx hb dX5_push_44 rfl (lv_at hl 0 rfl) ?_
      exact wr_iret hx hb hr hlocks hP hS rfl dX5_push_45 (by exact Or.inr ⟨i, hi, ei, Or.inr ⟨c_27, rfl, _, _, _, _, _, S9, hmr (mMr_ne c_27), hS9, rfl⟩⟩)
    · refine lv_aload_n hx hb dX5_push_30 rfl (lv_at hl 1 rfl) ?_
      refine lv_iconst (v := 2) hx hb dX5_push_31 (by decide) ?_
      refine wr_callV (As := [.int 2]) (rest := []) ⟨hx, hb, hml, hown, hts⟩ (c_X5_fails l D 2) (cwV 1 hts gX5_push_X5_fails rfl rfl rfl (by decide +kernel) ⟨by decide, by decide⟩) hK hN hZ hP hD hS [0, 1, 2, 3, 4, 5, 6, 7] [0] rfl (by decide) rfl (q0 := 0) rfl rfl rfl hl.1 rfl (Nat.le_of_ble_eq_true rfl) ⟨by decide, by decide⟩ dX5_push_32 (fun v9 w9 H locs hp9 hP hD hS => ?_)
      obtain ⟨rfl, rfl⟩ := hp9
      have hP : va_P D vwCl (MdW om xS xV xB xT xA xP xR cI 2 mS mSv (nI q) mBf kLn tl21 al21 pl21 bs21 lf21 kAt kWl mRd kRm hsh) H := hP
      have hD : va_D (wr_in (MdW om xS xV xB xT xA xP xR cI thr mS mSv (nI q) mBf kLn mTl mAl mPl kBs kLf kAt kWl mRd kRm hsh)) (MdW om xS xV xB xT xA xP xR cI 2 mS mSv (nI q) mBf kLn tl21 al21 pl21 bs21 lf21 kAt kWl mRd kRm hsh) := hD
      refine W.eq (g2 := F0 m 35 ls [.int 0]) rfl ?_
      exact wr_iret hx hb hr hlocks hP hS rfl dX5_push_35 (by exact Or.inr ⟨i, hi, ei, Or.inl ⟨c_27, rfl, _, _, _, _, _, rfl⟩⟩)
  · refine lv_aload_n hx hb dX5_push_13 rfl (lv_at hl 0 rfl) ?_
    refine lv_iconst (v := 1) hx hb dX5_push_14 (by decide) ?_
    refine wr_callV (As := [.int 1]) (rest := []) ⟨hx, hb, hml, hown, hts⟩ (c_X5_fails l D 1) (cwV 1 hts gX5_push_X5_fails rfl rfl rfl (by decide +kernel) ⟨by decide, by decide⟩) hK hN hZ hP hD hS [0, 1, 2, 3, 4, 5, 6, 7] [0] rfl (by decide) rfl (q0 := 0) rfl rfl rfl hl.1 rfl (Nat.le_of_ble_eq_true rfl) ⟨by decide, by decide⟩ dX5_push_15 (fun v9 w9 H locs hp9 hP hD hS => ?_)
    obtain ⟨rfl, rfl⟩ := hp9
    have hP : va_P D vwCl (MdW om xS xV xB xT xA xP xR cI 1 mS mSv (nI q) mBf kLn mTl mAl mPl kBs kLf kAt kWl mRd kRm hsh) H := hP
    have hD : va_D (wr_in (MdW om xS xV xB xT xA xP xR cI thr mS mSv (nI q) mBf kLn mTl mAl mPl kBs kLf kAt kWl mRd kRm hsh)) (MdW om xS xV xB xT xA xP xR cI 1 mS mSv (nI q) mBf kLn mTl mAl mPl kBs kLf kAt kWl mRd kRm hsh) := hD
    refine W.eq (g2 := F0 m 18 ls [.int 0]) rfl ?_
    exact wr_iret hx hb hr hlocks hP hS rfl dX5_push_18 (by exact Or.inl ⟨c_10, rfl, rfl⟩)
set_option maxHeartbeats 4000000 in
set_option maxRecDepth 100000 in
theorem c_X5_bestOf (l : Launch) (D : va_G) {om xS xV xB xT xA xP xR : Nat} {cI : ClassId} {thr kLn kBs kLf kAt kWl kRm : Int32} {hsh : Int64} {mS mSv mBf mTl mAl mPl mRd : Nat → Int32} {n : Nat} {P : Nat → Nat → Int32} {q : Nat} (hq6 : q ≤ 6) (hn8 : n ≤ 8) (hQ : mdS n P mS) (hbk : bd_ok n P) {i : Nat} (hi : i < n) : wr_M l yX5_bestOf wsX5_bestOf ({ frames := 7, cells := 0, slots := 0, locals := 160 } : Room) D (MdW om xS xV xB xT xA xP xR cI thr mS mSv (nI q) mBf kLn mTl mAl mPl kBs kLf kAt kWl mRd kRm hsh) [(cI, .int)] [.ref om, .int (nI i)] (fun v w9 => v = some (.int (if (mHv n P (-1) mPl).2 i = 4 then -1 else (mHv n P (-1) mPl).2 i)) ∧ ∃ al9 tl9 : Nat → Int32, w9 = MdW om xS xV xB xT xA xP xR cI thr mS mSv (nI q) mBf kLn tl9 al9 ((mHv n P (-1) mPl).2) ((mHv n P (-1) mPl).1) 0 kAt kWl mRd kRm hsh) := by
  refine wr_of (cc := cX5_bestOf) (maxL := 2) (ret := some .int) (by decide) rfl (Nat.le_of_ble_eq_true rfl) ?_
  intro p e s m below meth c hx hb hr hml hts hown hlocks hP hK hN hZ hD hS ls hl
  have hown : s.vm.findClass RX5 = some m.cls := hown
  have hl : lv_has ls 2 [(0, .ref om), (1, .int (nI i))] := hl
  have hinX5 : ∀ w ∈ u_ws RX5 TX5 16, w ∈ wsX5_bestOf := by decide +kernel
  have hw25 := hts (.fieldLink RX5 25 "CornerLabelsModel" "plan" "[I") (by decide +kernel)
  suffices body : ∀ (H : Heap) (locs : List Loc), va_P D vwCl (MdW om xS xV xB xT xA xP xR cI thr mS mSv (nI q) mBf kLn mTl mAl mPl kBs kLf kAt kWl mRd kRm hsh) H → va_D (wr_in (MdW om xS xV xB xT xA xP xR cI thr mS mSv (nI q) mBf kLn mTl mAl mPl kBs kLf kAt kWl mRd kRm hsh)) (MdW om xS xV xB xT xA xP xR cI thr mS mSv (nI q) mBf kLn mTl mAl mPl kBs kLf kAt kWl mRd kRm hsh) → va_S (wr_in (MdW om xS xV xB xT xA xP xR cI thr mS mSv (nI q) mBf kLn mTl mAl mPl kBs kLf kAt kWl mRd kRm hsh)) s.heap H locs → wr_W p l e wsX5_bestOf ({ frames := 7, cells := 0, slots := 0, locals := 160 } : Room) s m [.ref om, .int (nI i)] below meth c D (MdW om xS xV xB xT xA xP xR cI thr mS mSv (nI q) mBf kLn mTl mAl mPl kBs kLf kAt kWl mRd kRm hsh) (fun v w9 => v = some (.int (if (mHv n P (-1) mPl).2 i = 4 then -1 else (mHv n P (-1) mPl).2 i)) ∧ ∃ al9 tl9 : Nat → Int32, w9 = MdW om xS xV xB xT xA xP xR cI thr mS mSv (nI q) mBf kLn tl9 al9 ((mHv n P (-1) mPl).2) ((mHv n P (-1) mPl).1) 0 kAt kWl mRd kRm hsh) H locs (F0 m 0 ls []) from body _ _ hP hD hS
  clear hP hD hS
  intro H locs hP hD hS
  refine lv_aload_n hx hb dX5_bestOf_0 rfl (lv_at hl 0 rfl) ?_
  refine lv_iconst (v := (-1)) hx hb dX5_bestOf_1 (by decide) ?_
  refine wr_callV (As := [.int (-1)]) (rest := []) ⟨hx, hb, hml, hown, hts⟩ (c_X5_heaviest (P := P) l D (q := q) hq6 hn8 hQ hbk (-1)) (cwV 1 hts gX5_bestOf_X5_heaviest rfl rfl rfl (by decide +kernel) ⟨by decide, by decide⟩) hK hN hZ hP hD hS [0, 1, 2, 3, 4, 5, 6, 7] [0] rfl (by decide) rfl (q0 := 0) rfl rfl rfl hl.1 rfl (Nat.le_of_ble_eq_true rfl) ⟨by decide, by decide⟩ dX5_bestOf_2 (fun v9 w9 H locs hp9 hP hD hS => ?_)
  obtain ⟨rfl, al2, tl2, rfl⟩ := hp9
  have hP : va_P D vwCl (MdW om xS xV xB xT xA xP xR cI thr mS mSv (nI q) mBf kLn tl2 al2 ((mHv n P (-1) mPl).2) ((mHv n P (-1) mPl).1) 0 kAt kWl mRd kRm hsh) H := hP
  have hD : va_D (wr_in (MdW om xS xV xB xT xA xP xR cI thr mS mSv (nI q) mBf kLn mTl mAl mPl kBs kLf kAt kWl mRd kRm hsh)) (MdW om xS xV xB xT xA xP xR cI thr mS mSv (nI q) mBf kLn tl2 al2 ((mHv n P (-1) mPl).2) ((mHv n P (-1) mPl).1) 0 kAt kWl mRd kRm hsh) := hD
  refine W.eq (g2 := F0 m 5 ls [.int ((mHv n P (-1) mPl).1)]) rfl ?_
  refine lv_pop hx hb dX5_bestOf_5 rfl ?_
  refine lv_aload_n hx hb dX5_bestOf_6 rfl (lv_at hl 0 rfl) ?_
  refine va_get (D := D) (ci := 5) (v := .ref xP) (C := RX5) (T := TX5) (N := 16) hx hb hts hinX5 hown hK hP 0 rfl rfl 8 (by decide) hw25 (fun _ h9 => h9) rfl dX5_bestOf_7 ?_
  refine lv_iload_n hx hb dX5_bestOf_10 rfl (lv_at hl 1 rfl) ?_
  refine rd_ald (q0 := 6) (t0 := 0) (j := i) (v := ((mHv n P (-1) mPl).2) i) hx hb hK hP rfl rfl (rfl) (by omega) (by decide) (rfl) dX5_bestOf_11 ?_
  refine lv_iconst (v := 4) hx hb dX5_bestOf_12 (by decide) ?_
  refine lv_icmp_ne (tgt := 20) hx hb dX5_bestOf_13 (by decide) (fun c_13 => ?_) (fun c_13 => ?_)
  · refine lv_aload_n hx hb dX5_bestOf_20 rfl (lv_at hl 0 rfl) ?_
    refine va_get (D := D) (ci := 5) (v := .ref xP) (C := RX5) (T := TX5) (N := 16) hx hb hts hinX5 hown hK hP 0 rfl rfl 8 (by decide) hw25 (fun _ h9 => h9) rfl dX5_bestOf_21 ?_
    refine lv_iload_n hx hb dX5_bestOf_24 rfl (lv_at hl 1 rfl) ?_
    refine rd_ald (q0 := 6) (t0 := 0) (j := i) (v := ((mHv n P (-1) mPl).2) i) hx hb hK hP rfl rfl (rfl) (by omega) (by decide) (rfl) dX5_bestOf_25 ?_
    exact wr_iret hx hb hr hlocks hP hS rfl dX5_bestOf_26 (by exact ⟨by simp [c_13], _, _, rfl⟩)
  · refine lv_iconst (v := (-1)) hx hb dX5_bestOf_16 (by decide) ?_
    refine lv_goto (tgt := 26) hx hb dX5_bestOf_17 (by decide) ?_
    exact wr_iret hx hb hr hlocks hP hS rfl dX5_bestOf_26 (by exact ⟨by simp [c_13], _, _, rfl⟩)
set_option maxHeartbeats 4000000 in
set_option maxRecDepth 100000 in
theorem c_X5_best (l : Launch) (D : va_G) {om xS xV xB xT xA xP xR : Nat} {cI : ClassId} {thr kLn kBs kLf kAt kWl kRm : Int32} {hsh : Int64} {mS mSv mBf mTl mAl mPl mRd : Nat → Int32} {n : Nat} {P : Nat → Nat → Int32} {q : Nat} (hq6 : q ≤ 6) (hn8 : n ≤ 8) (hQ : mdS n P mS) (hbk : bd_ok n P) (x : Int32) : wr_M l yX5_best wsX5_best ({ frames := 8, cells := 0, slots := 0, locals := 181 } : Room) D (MdW om xS xV xB xT xA xP xR cI thr mS mSv (nI q) mBf kLn mTl mAl mPl kBs kLf kAt kWl mRd kRm hsh) [(cI, .int)] [.ref om, .int x] (fun v w9 => (gHas n x = false ∧ v = some (.int 0) ∧ w9 = MdW om xS xV xB xT xA xP xR cI 1 mS mSv (nI q) mBf kLn mTl mAl mPl kBs kLf kAt kWl mRd kRm hsh) ∨ (∃ i, i < n ∧ x = nI i ∧ v = some (.int (if (mHv n P (-1) mPl).2 i = 4 then -1 else (mHv n P (-1) mPl).2 i)) ∧ ∃ al9 tl9 : Nat → Int32, w9 = MdW om xS xV xB xT xA xP xR cI 0 mS mSv (nI q) mBf kLn tl9 al9 ((mHv n P (-1) mPl).2) ((mHv n P (-1) mPl).1) 0 kAt kWl mRd kRm hsh)) := by
  refine wr_of (cc := cX5_best) (maxL := 2) (ret := some .int) (by decide) rfl (Nat.le_of_ble_eq_true rfl) ?_
  intro p e s m below meth c hx hb hr hml hts hown hlocks hP hK hN hZ hD hS ls hl
  have hown : s.vm.findClass RX5 = some m.cls := hown
  have hl : lv_has ls 2 [(0, .ref om), (1, .int x)] := hl
  have hinX5 : ∀ w ∈ u_ws RX5 TX5 16, w ∈ wsX5_best := by decide +kernel
  have hw31 := hts (.fieldLink RX5 31 "CornerLabelsModel" "thrown" "I") (by decide +kernel)
  suffices body : ∀ (H : Heap) (locs : List Loc), va_P D vwCl (MdW om xS xV xB xT xA xP xR cI thr mS mSv (nI q) mBf kLn mTl mAl mPl kBs kLf kAt kWl mRd kRm hsh) H → va_D (wr_in (MdW om xS xV xB xT xA xP xR cI thr mS mSv (nI q) mBf kLn mTl mAl mPl kBs kLf kAt kWl mRd kRm hsh)) (MdW om xS xV xB xT xA xP xR cI thr mS mSv (nI q) mBf kLn mTl mAl mPl kBs kLf kAt kWl mRd kRm hsh) → va_S (wr_in (MdW om xS xV xB xT xA xP xR cI thr mS mSv (nI q) mBf kLn mTl mAl mPl kBs kLf kAt kWl mRd kRm hsh)) s.heap H locs → wr_W p l e wsX5_best ({ frames := 8, cells := 0, slots := 0, locals := 181 } : Room) s m [.ref om, .int x] below meth c D (MdW om xS xV xB xT xA xP xR cI thr mS mSv (nI q) mBf kLn mTl mAl mPl kBs kLf kAt kWl mRd kRm hsh) (fun v w9 => (gHas n x = false ∧ v = some (.int 0) ∧ w9 = MdW om xS xV xB xT xA xP xR cI 1 mS mSv (nI q) mBf kLn mTl mAl mPl kBs kLf kAt kWl mRd kRm hsh) ∨ (∃ i, i < n ∧ x = nI i ∧ v = some (.int (if (mHv n P (-1) mPl).2 i = 4 then -1 else (mHv n P (-1) mPl).2 i)) ∧ ∃ al9 tl9 : Nat → Int32, w9 = MdW om xS xV xB xT xA xP xR cI 0 mS mSv (nI q) mBf kLn tl9 al9 ((mHv n P (-1) mPl).2) ((mHv n P (-1) mPl).1) 0 kAt kWl mRd kRm hsh)) H locs (F0 m 0 ls []) from body _ _ hP hD hS
  clear hP hD hS
  intro H locs hP hD hS
  refine lv_aload_n hx hb dX5_best_0 rfl (lv_at hl 0 rfl) ?_
  refine lv_iconst (v := 0) hx hb dX5_best_1 (by decide) ?_
  refine va_put (D := D) (ci := 5) (v := .int 0) (ty := .int) (C := RX5) (T := TX5) (N := 16) hx hb hts hinX5 tyX5 tyX5_ok nmX5 hown hK hP hD hS 0 rfl rfl 0 (by decide) hw31 (fun _ h9 => h9) rfl (by decide +kernel) rfl rfl (Nat.le_of_ble_eq_true rfl) dX5_best_2 (fun H locs hP hD hS => ?_)
  have hP : va_P D vwCl (MdW om xS xV xB xT xA xP xR cI 0 mS mSv (nI q) mBf kLn mTl mAl mPl kBs kLf kAt kWl mRd kRm hsh) H := hP
  have hD : va_D (wr_in (MdW om xS xV xB xT xA xP xR cI thr mS mSv (nI q) mBf kLn mTl mAl mPl kBs kLf kAt kWl mRd kRm hsh)) (MdW om xS xV xB xT xA xP xR cI 0 mS mSv (nI q) mBf kLn mTl mAl mPl kBs kLf kAt kWl mRd kRm hsh) := hD
  refine lv_aload_n hx hb dX5_best_5 rfl (lv_at hl 0 rfl) ?_
  refine lv_iload_n hx hb dX5_best_6 rfl (lv_at hl 1 rfl) ?_
  have hmd : md_in (MdW om xS xV xB xT xA xP xR cI 0 mS mSv (nI q) mBf kLn mTl mAl mPl kBs kLf kAt kWl mRd kRm hsh) [(cI, .int)] om n P := ⟨0, 1, 0, xS, cI, mS, _, rfl, rfl, rfl, rfl, hn8, hQ.1, hQ.2, hbk⟩
  refine rd_callV (As := [.int x]) (rest := []) ⟨hx, hb, hml, hown, hts⟩ (c_X5_isPoint l D hmd x) (cwV 1 hts gX5_best_X5_isPoint rfl rfl rfl (by decide +kernel) ⟨by decide, by decide⟩) hK hN hP (q0 := 0) rfl rfl rfl hl.1 rfl (Nat.le_of_ble_eq_true rfl) ⟨by decide, by decide⟩ dX5_best_7 ?_
  refine rd_ifeq_b (tgt := 21) hx hb dX5_best_10 (by decide) (fun c_10 => ?_) (fun c_10 => ?_)
  · refine lv_aload_n hx hb dX5_best_21 rfl (lv_at hl 0 rfl) ?_
    refine lv_iconst (v := 1) hx hb dX5_best_22 (by decide) ?_
    refine wr_callV (As := [.int 1]) (rest := []) ⟨hx, hb, hml, hown, hts⟩ (c_X5_fails l D 1) (cwV 1 hts gX5_best_X5_fails rfl rfl rfl (by decide +kernel) ⟨by decide, by decide⟩) hK hN hZ hP hD hS [0, 1, 2, 3, 4, 5, 6, 7] [0] rfl (by decide) rfl (q0 := 0) rfl rfl rfl hl.1 rfl (Nat.le_of_ble_eq_true rfl) ⟨by decide, by decide⟩ dX5_best_23 (fun v9 w9 H locs hp9 hP hD hS => ?_)
    obtain ⟨rfl, rfl⟩ := hp9
    have hP : va_P D vwCl (MdW om xS xV xB xT xA xP xR cI 1 mS mSv (nI q) mBf kLn mTl mAl mPl kBs kLf kAt kWl mRd kRm hsh) H := hP
    have hD : va_D (wr_in (MdW om xS xV xB xT xA xP xR cI thr mS mSv (nI q) mBf kLn mTl mAl mPl kBs kLf kAt kWl mRd kRm hsh)) (MdW om xS xV xB xT xA xP xR cI 1 mS mSv (nI q) mBf kLn mTl mAl mPl kBs kLf kAt kWl mRd kRm hsh) := hD
    refine W.eq (g2 := F0 m 26 ls [.int 0]) rfl ?_
    exact wr_iret hx hb hr hlocks hP hS rfl dX5_best_26 (by exact Or.inl ⟨c_10, rfl, rfl⟩)
  · obtain ⟨i, hi, ei⟩ := (gHas_iff hn8).mp c_10
    rw [ei] at hl
    have hl : lv_has ls 2 [(0, .ref om), (1, .int (nI i))] := hl
    refine lv_aload_n hx hb dX5_best_13 rfl (lv_at hl 0 rfl) ?_
    refine lv_iload_n hx hb dX5_best_14 rfl (lv_at hl 1 rfl) ?_
    refine wr_callV (As := [.int (nI i)]) (rest := []) ⟨hx, hb, hml, hown, hts⟩ (c_X5_bestOf (P := P) l D (q := q) hq6 hn8 hQ hbk (i := i) hi) (cwV 1 hts gX5_best_X5_bestOf rfl rfl rfl (by decide +kernel) ⟨by decide, by decide⟩) hK hN hZ hP hD hS [0, 1, 2, 3, 4, 5, 6, 7] [0] rfl (by decide) rfl (q0 := 0) rfl rfl rfl hl.1 rfl (Nat.le_of_ble_eq_true rfl) ⟨by decide, by decide⟩ dX5_best_15 (fun v9 w9 H locs hp9 hP hD hS => ?_)
    obtain ⟨rfl, al9, tl9, rfl⟩ := hp9
    have hP : va_P D vwCl (MdW om xS xV xB xT xA xP xR cI 0 mS mSv (nI q) mBf kLn tl9 al9 ((mHv n P (-1) mPl).2) ((mHv n P (-1) mPl).1) 0 kAt kWl mRd kRm hsh) H := hP
    have hD : va_D (wr_in (MdW om xS xV xB xT xA xP xR cI thr mS mSv (nI q) mBf kLn mTl mAl mPl kBs kLf kAt kWl mRd kRm hsh)) (MdW om xS xV xB xT xA xP xR cI 0 mS mSv (nI q) mBf kLn tl9 al9 ((mHv n P (-1) mPl).2) ((mHv n P (-1) mPl).1) 0 kAt kWl mRd kRm hsh) := hD
    refine W.eq (g2 := F0 m 18 ls [.int (if (mHv n P (-1) mPl).2 i = 4 then -1 else (mHv n P (-1) mPl).2 i)]) rfl ?_
    refine lv_goto (tgt := 26) hx hb dX5_best_18 (by decide) ?_
    exact wr_iret hx hb hr hlocks hP hS rfl dX5_best_26 (by exact Or.inr ⟨i, hi, ei, rfl, _, _, rfl⟩)
set_option maxHeartbeats 4000000 in
set_option maxRecDepth 100000 in
theorem c_X5_bestWeight (l : Launch) (D : va_G) {om xS xV xB xT xA xP xR : Nat} {cI : ClassId} {thr kLn kBs kLf kAt kWl kRm : Int32} {hsh : Int64} {mS mSv mBf mTl mAl mPl mRd : Nat → Int32} {n : Nat} {P : Nat → Nat → Int32} {q : Nat} (hq6 : q ≤ 6) (hn8 : n ≤ 8) (hQ : mdS n P mS) (hbk : bd_ok n P) (x : Int32) : wr_M l yX5_bestWeight wsX5_bestWeight ({ frames := 7, cells := 0, slots := 0, locals := 160 } : Room) D (MdW om xS xV xB xT xA xP xR cI thr mS mSv (nI q) mBf kLn mTl mAl mPl kBs kLf kAt kWl mRd kRm hsh) [(cI, .int)] [.ref om, .int x] (fun v w9 => (¬ x = -1 ∧ gHas n x = false ∧ v = some (.int 0) ∧ w9 = MdW om xS xV xB xT xA xP xR cI 1 mS mSv (nI q) mBf kLn mTl mAl mPl kBs kLf kAt kWl mRd kRm hsh) ∨ ((x = -1 ∨ gHas n x = true) ∧ v = some (.int (mHv n P x mPl).1) ∧ ∃ al9 tl9 : Nat → Int32, w9 = MdW om xS xV xB xT xA xP xR cI 0 mS mSv (nI q) mBf kLn tl9 al9 ((mHv n P x mPl).2) ((mHv n P x mPl).1) 0 kAt kWl mRd kRm hsh)) := by
  refine wr_of (cc := cX5_bestWeight) (maxL := 2) (ret := some .int) (by decide) rfl (Nat.le_of_ble_eq_true rfl) ?_
  intro p e s m below meth c hx hb hr hml hts hown hlocks hP hK hN hZ hD hS ls hl
  have hown : s.vm.findClass RX5 = some m.cls := hown
  have hl : lv_has ls 2 [(0, .ref om), (1, .int x)] := hl
  have hinX5 : ∀ w ∈ u_ws RX5 TX5 16, w ∈ wsX5_bestWeight := by decide +kernel
  have hw31 := hts (.fieldLink RX5 31 "CornerLabelsModel" "thrown" "I") (by decide +kernel)
  suffices body : ∀ (H : Heap) (locs : List Loc), va_P D vwCl (MdW om xS xV xB xT xA xP xR cI thr mS mSv (nI q) mBf kLn mTl mAl mPl kBs kLf kAt kWl mRd kRm hsh) H → va_D (wr_in (MdW om xS xV xB xT xA xP xR cI thr mS mSv (nI q) mBf kLn mTl mAl mPl kBs kLf kAt kWl mRd kRm hsh)) (MdW om xS xV xB xT xA xP xR cI thr mS mSv (nI q) mBf kLn mTl mAl mPl kBs kLf kAt kWl mRd kRm hsh) → va_S (wr_in (MdW om xS xV xB xT xA xP xR cI thr mS mSv (nI q) mBf kLn mTl mAl mPl kBs kLf kAt kWl mRd kRm hsh)) s.heap H locs → wr_W p l e wsX5_bestWeight ({ frames := 7, cells := 0, slots := 0, locals := 160 } : Room) s m [.ref om, .int x] below meth c D (MdW om xS xV xB xT xA xP xR cI thr mS mSv (nI q) mBf kLn mTl mAl mPl kBs kLf kAt kWl mRd kRm hsh) (fun v w9 => (¬ x = -1 ∧ gHas n x = false ∧ v = some (.int 0) ∧ w9 = MdW om xS xV xB xT xA xP xR cI 1 mS mSv (nI q) mBf kLn mTl mAl mPl kBs kLf kAt kWl mRd kRm hsh) ∨ ((x = -1 ∨ gHas n x = true) ∧ v = some (.int (mHv n P x mPl).1) ∧ ∃ al9 tl9 : Nat → Int32, w9 = MdW om xS xV xB xT xA xP xR cI 0 mS mSv (nI q) mBf kLn tl9 al9 ((mHv n P x mPl).2) ((mHv n P x mPl).1) 0 kAt kWl mRd kRm hsh)) H locs (F0 m 0 ls []) from body _ _ hP hD hS
  clear hP hD hS
  intro H locs hP hD hS
  refine lv_aload_n hx hb dX5_bestWeight_0 rfl (lv_at hl 0 rfl) ?_
  refine lv_iconst (v := 0) hx hb dX5_bestWeight_1 (by decide) ?_
  refine va_put (D := D) (ci := 5) (v := .int 0) (ty := .int) (C := RX5) (T := TX5) (N := 16) hx hb hts hinX5 tyX5 tyX5_ok nmX5 hown hK hP hD hS 0 rfl rfl 0 (by decide) hw31 (fun _ h9 => h9) rfl (by decide +kernel) rfl rfl (Nat.le_of_ble_eq_true rfl) dX5_bestWeight_2 (fun H locs hP hD hS => ?_)
  have hP : va_P D vwCl (MdW om xS xV xB xT xA xP xR cI 0 mS mSv (nI q) mBf kLn mTl mAl mPl kBs kLf kAt kWl mRd kRm hsh) H := hP
  have hD : va_D (wr_in (MdW om xS xV xB xT xA xP xR cI thr mS mSv (nI q) mBf kLn mTl mAl mPl kBs kLf kAt kWl mRd kRm hsh)) (MdW om xS xV xB xT xA xP xR cI 0 mS mSv (nI q) mBf kLn mTl mAl mPl kBs kLf kAt kWl mRd kRm hsh) := hD
  refine lv_iload_n hx hb dX5_bestWeight_5 rfl (lv_at hl 1 rfl) ?_
  refine lv_iconst (v := (-1)) hx hb dX5_bestWeight_6 (by decide) ?_
  refine lv_icmp_eq (tgt := 18) hx hb dX5_bestWeight_7 (by decide) (fun c_7 => ?_) (fun c_7 => ?_)
  · refine lv_aload_n hx hb dX5_bestWeight_18 rfl (lv_at hl 0 rfl) ?_
    refine lv_iload_n hx hb dX5_bestWeight_19 rfl (lv_at hl 1 rfl) ?_
    refine wr_callV (As := [.int x]) (rest := []) ⟨hx, hb, hml, hown, hts⟩ (c_X5_heaviest (P := P) l D (q := q) hq6 hn8 hQ hbk x) (cwV 1 hts gX5_bestWeight_X5_heaviest rfl rfl rfl (by decide +kernel) ⟨by decide, by decide⟩) hK hN hZ hP hD hS [0, 1, 2, 3, 4, 5, 6, 7] [0] rfl (by decide) rfl (q0 := 0) rfl rfl rfl hl.1 rfl (Nat.le_of_ble_eq_true rfl) ⟨by decide, by decide⟩ dX5_bestWeight_20 (fun v9 w9 H locs hp9 hP hD hS => ?_)
    obtain ⟨rfl, al20, tl20, rfl⟩ := hp9
    have hP : va_P D vwCl (MdW om xS xV xB xT xA xP xR cI 0 mS mSv (nI q) mBf kLn tl20 al20 ((mHv n P x mPl).2) ((mHv n P x mPl).1) 0 kAt kWl mRd kRm hsh) H := hP
    have hD : va_D (wr_in (MdW om xS xV xB xT xA xP xR cI thr mS mSv (nI q) mBf kLn mTl mAl mPl kBs kLf kAt kWl mRd kRm hsh)) (MdW om xS xV xB xT xA xP xR cI 0 mS mSv (nI q) mBf kLn tl20 al20 ((mHv n P x mPl).2) ((mHv n P x mPl).1) 0 kAt kWl mRd kRm hsh) := hD
    refine W.eq (g2 := F0 m 23 ls [.int ((mHv n P x mPl).1)]) rfl ?_
    refine lv_goto (tgt := 31) hx hb dX5_bestWeight_23 (by decide) ?_
    exact wr_iret hx hb hr hlocks hP hS rfl dX5_bestWeight_31 (by exact Or.inr ⟨by simp [c_7], rfl, _, _, rfl⟩)
  · refine lv_aload_n hx hb dX5_bestWeight_10 rfl (lv_at hl 0 rfl) ?_
    refine lv_iload_n hx hb dX5_bestWeight_11 rfl (lv_at hl 1 rfl) ?_
    have hmd : md_in (MdW om xS xV xB xT xA xP xR cI 0 mS mSv (nI q) mBf kLn mTl mAl mPl kBs kLf kAt kWl mRd kRm hsh) [(cI, .int)] om n P := ⟨0, 1, 0, xS, cI, mS, _, rfl, rfl, rfl, rfl, hn8, hQ.1, hQ.2, hbk⟩
    refine rd_callV (As := [.int x]) (rest := []) ⟨hx, hb, hml, hown, hts⟩ (c_X5_isPoint l D hmd x) (cwV 1 hts gX5_bestWeight_X5_isPoint rfl rfl rfl (by decide +kernel) ⟨by decide, by decide⟩) hK hN hP (q0 := 0) rfl rfl rfl hl.1 rfl (Nat.le_of_ble_eq_true rfl) ⟨by decide, by decide⟩ dX5_bestWeight_12 ?_
    refine rd_ifeq_b (tgt := 26) hx hb dX5_bestWeight_15 (by decide) (fun c_15 => ?_) (fun c_15 => ?_)
    · refine lv_aload_n hx hb dX5_bestWeight_26 rfl (lv_at hl 0 rfl) ?_
      refine lv_iconst (v := 1) hx hb dX5_bestWeight_27 (by decide) ?_
      refine wr_callV (As := [.int 1]) (rest := []) ⟨hx, hb, hml, hown, hts⟩ (c_X5_fails l D 1) (cwV 1 hts gX5_bestWeight_X5_fails rfl rfl rfl (by decide +kernel) ⟨by decide, by decide⟩) hK hN hZ hP hD hS [0, 1, 2, 3, 4, 5, 6, 7] [0] rfl (by decide) rfl (q0 := 0) rfl rfl rfl hl.1 rfl (Nat.le_of_ble_eq_true rfl) ⟨by decide, by decide⟩ dX5_bestWeight_28 (fun v9 w9 H locs hp9 hP hD hS => ?_)
      obtain ⟨rfl, rfl⟩ := hp9
      have hP : va_P D vwCl (MdW om xS xV xB xT xA xP xR cI 1 mS mSv (nI q) mBf kLn mTl mAl mPl kBs kLf kAt kWl mRd kRm hsh) H := hP
      have hD : va_D (wr_in (MdW om xS xV xB xT xA xP xR cI thr mS mSv (nI q) mBf kLn mTl mAl mPl kBs kLf kAt kWl mRd kRm hsh)) (MdW om xS xV xB xT xA xP xR cI 1 mS mSv (nI q) mBf kLn mTl mAl mPl kBs kLf kAt kWl mRd kRm hsh) := hD
      refine W.eq (g2 := F0 m 31 ls [.int 0]) rfl ?_
      exact wr_iret hx hb hr hlocks hP hS rfl dX5_bestWeight_31 (by exact Or.inl ⟨c_7, c_15, rfl, rfl⟩)
    · refine lv_aload_n hx hb dX5_bestWeight_18 rfl (lv_at hl 0 rfl) ?_
      refine lv_iload_n hx hb dX5_bestWeight_19 rfl (lv_at hl 1 rfl) ?_
      refine wr_callV (As := [.int x]) (rest := []) ⟨hx, hb, hml, hown, hts⟩ (c_X5_heaviest (P := P) l D (q := q) hq6 hn8 hQ hbk x) (cwV 1 hts gX5_bestWeight_X5_heaviest rfl rfl rfl (by decide +kernel) ⟨by decide, by decide⟩) hK hN hZ hP hD hS [0, 1, 2, 3, 4, 5, 6, 7] [0] rfl (by decide) rfl (q0 := 0) rfl rfl rfl hl.1 rfl (Nat.le_of_ble_eq_true rfl) ⟨by decide, by decide⟩ dX5_bestWeight_20 (fun v9 w9 H locs hp9 hP hD hS => ?_)
      obtain ⟨rfl, al20, tl20, rfl⟩ := hp9
      have hP : va_P D vwCl (MdW om xS xV xB xT xA xP xR cI 0 mS mSv (nI q) mBf kLn tl20 al20 ((mHv n P x mPl).2) ((mHv n P x mPl).1) 0 kAt kWl mRd kRm hsh) H := hP
      have hD : va_D (wr_in (MdW om xS xV xB xT xA xP xR cI thr mS mSv (nI q) mBf kLn mTl mAl mPl kBs kLf kAt kWl mRd kRm hsh)) (MdW om xS xV xB xT xA xP xR cI 0 mS mSv (nI q) mBf kLn tl20 al20 ((mHv n P x mPl).2) ((mHv n P x mPl).1) 0 kAt kWl mRd kRm hsh) := hD
      refine W.eq (g2 := F0 m 23 ls [.int ((mHv n P x mPl).1)]) rfl ?_
      refine lv_goto (tgt := 31) hx hb dX5_bestWeight_23 (by decide) ?_
      exact wr_iret hx hb hr hlocks hP hS rfl dX5_bestWeight_31 (by exact Or.inr ⟨by simp [c_7, c_15], rfl, _, _, rfl⟩)
set_option maxHeartbeats 4000000 in
set_option maxRecDepth 100000 in
theorem c_X5_ifPushed (l : Launch) (D : va_G) {om xS xV xB xT xA xP xR : Nat} {cI : ClassId} {thr kLn kBs kLf kAt kWl kRm : Int32} {hsh : Int64} {mS mSv mBf mTl mAl mPl mRd : Nat → Int32} {n : Nat} {P : Nat → Nat → Int32} {q : Nat} (hq6 : q ≤ 6) (hn8 : n ≤ 8) (hQ : mdS n P mS) (hbk : bd_ok n P) (x : Int32) : wr_M l yX5_ifPushed wsX5_ifPushed ({ frames := 7, cells := 0, slots := 0, locals := 160 } : Room) D (MdW om xS xV xB xT xA xP xR cI thr mS mSv (nI q) mBf kLn mTl mAl mPl kBs kLf kAt kWl mRd kRm hsh) [(cI, .int)] [.ref om, .int x] (fun v w9 => (gHas n x = false ∧ v = some (.int 0) ∧ w9 = MdW om xS xV xB xT xA xP xR cI 1 mS mSv (nI q) mBf kLn mTl mAl mPl kBs kLf kAt kWl mRd kRm hsh) ∨ (∃ i, i < n ∧ x = nI i ∧ v = some (.int (mMr n P i mPl)) ∧ ∃ (al9 tl9 : Nat → Int32) (lf9 bs9 : Int32) (pl9 : Nat → Int32), w9 = MdW om xS xV xB xT xA xP xR cI 0 mS mSv (nI q) mBf kLn tl9 al9 pl9 bs9 lf9 kAt kWl mRd kRm hsh)) := by
  refine wr_of (cc := cX5_ifPushed) (maxL := 2) (ret := some .int) (by decide) rfl (Nat.le_of_ble_eq_true rfl) ?_
  intro p e s m below meth c hx hb hr hml hts hown hlocks hP hK hN hZ hD hS ls hl
  have hown : s.vm.findClass RX5 = some m.cls := hown
  have hl : lv_has ls 2 [(0, .ref om), (1, .int x)] := hl
  have hinX5 : ∀ w ∈ u_ws RX5 TX5 16, w ∈ wsX5_ifPushed := by decide +kernel
  have hw31 := hts (.fieldLink RX5 31 "CornerLabelsModel" "thrown" "I") (by decide +kernel)
  suffices body : ∀ (H : Heap) (locs : List Loc), va_P D vwCl (MdW om xS xV xB xT xA xP xR cI thr mS mSv (nI q) mBf kLn mTl mAl mPl kBs kLf kAt kWl mRd kRm hsh) H → va_D (wr_in (MdW om xS xV xB xT xA xP xR cI thr mS mSv (nI q) mBf kLn mTl mAl mPl kBs kLf kAt kWl mRd kRm hsh)) (MdW om xS xV xB xT xA xP xR cI thr mS mSv (nI q) mBf kLn mTl mAl mPl kBs kLf kAt kWl mRd kRm hsh) → va_S (wr_in (MdW om xS xV xB xT xA xP xR cI thr mS mSv (nI q) mBf kLn mTl mAl mPl kBs kLf kAt kWl mRd kRm hsh)) s.heap H locs → wr_W p l e wsX5_ifPushed ({ frames := 7, cells := 0, slots := 0, locals := 160 } : Room) s m [.ref om, .int x] below meth c D (MdW om xS xV xB xT xA xP xR cI thr mS mSv (nI q) mBf kLn mTl mAl mPl kBs kLf kAt kWl mRd kRm hsh) (fun v w9 => (gHas n x = false ∧ v = some (.int 0) ∧ w9 = MdW om xS xV xB xT xA xP xR cI 1 mS mSv (nI q) mBf kLn mTl mAl mPl kBs kLf kAt kWl mRd kRm hsh) ∨ (∃ i, i < n ∧ x = nI i ∧ v = some (.int (mMr n P i mPl)) ∧ ∃ (al9 tl9 : Nat → Int32) (lf9 bs9 : Int32) (pl9 : Nat → Int32), w9 = MdW om xS xV xB xT xA xP xR cI 0 mS mSv (nI q) mBf kLn tl9 al9 pl9 bs9 lf9 kAt kWl mRd kRm hsh)) H locs (F0 m 0 ls []) from body _ _ hP hD hS
  clear hP hD hS
  intro H locs hP hD hS
  refine lv_aload_n hx hb dX5_ifPushed_0 rfl (lv_at hl 0 rfl) ?_
  refine lv_iconst (v := 0) hx hb dX5_ifPushed_1 (by decide) ?_
  refine va_put (D := D) (ci := 5) (v := .int 0) (ty := .int) (C := RX5) (T := TX5) (N := 16) hx hb hts hinX5 tyX5 tyX5_ok nmX5 hown hK hP hD hS 0 rfl rfl 0 (by decide) hw31 (fun _ h9 => h9) rfl (by decide +kernel) rfl rfl (Nat.le_of_ble_eq_true rfl) dX5_ifPushed_2 (fun H locs hP hD hS => ?_)
  have hP : va_P D vwCl (MdW om xS xV xB xT xA xP xR cI 0 mS mSv (nI q) mBf kLn mTl mAl mPl kBs kLf kAt kWl mRd kRm hsh) H := hP
  have hD : va_D (wr_in (MdW om xS xV xB xT xA xP xR cI thr mS mSv (nI q) mBf kLn mTl mAl mPl kBs kLf kAt kWl mRd kRm hsh)) (MdW om xS xV xB xT xA xP xR cI 0 mS mSv (nI q) mBf kLn mTl mAl mPl kBs kLf kAt kWl mRd kRm hsh) := hD
  refine lv_aload_n hx hb dX5_ifPushed_5 rfl (lv_at hl 0 rfl) ?_
  refine lv_iload_n hx hb dX5_ifPushed_6 rfl (lv_at hl 1 rfl) ?_
  have hmd : md_in (MdW om xS xV xB xT xA xP xR cI 0 mS mSv (nI q) mBf kLn mTl mAl mPl kBs kLf kAt kWl mRd kRm hsh) [(cI, .int)] om n P := ⟨0, 1, 0, xS, cI, mS, _, rfl, rfl, rfl, rfl, hn8, hQ.1, hQ.2, hbk⟩
  refine rd_callV (As := [.int x]) (rest := []) ⟨hx, hb, hml, hown, hts⟩ (c_X5_isPoint l D hmd x) (cwV 1 hts gX5_ifPushed_X5_isPoint rfl rfl rfl (by decide +kernel) ⟨by decide, by decide⟩) hK hN hP (q0 := 0) rfl rfl rfl hl.1 rfl (Nat.le_of_ble_eq_true rfl) ⟨by decide, by decide⟩ dX5_ifPushed_7 ?_
  refine rd_ifeq_b (tgt := 21) hx hb dX5_ifPushed_10 (by decide) (fun c_10 => ?_) (fun c_10 => ?_)
  · refine lv_aload_n hx hb dX5_ifPushed_21 rfl (lv_at hl 0 rfl) ?_
    refine lv_iconst (v := 1) hx hb dX5_ifPushed_22 (by decide) ?_
    refine wr_callV (As := [.int 1]) (rest := []) ⟨hx, hb, hml, hown, hts⟩ (c_X5_fails l D 1) (cwV 1 hts gX5_ifPushed_X5_fails rfl rfl rfl (by decide +kernel) ⟨by decide, by decide⟩) hK hN hZ hP hD hS [0, 1, 2, 3, 4, 5, 6, 7] [0] rfl (by decide) rfl (q0 := 0) rfl rfl rfl hl.1 rfl (Nat.le_of_ble_eq_true rfl) ⟨by decide, by decide⟩ dX5_ifPushed_23 (fun v9 w9 H locs hp9 hP hD hS => ?_)
    obtain ⟨rfl, rfl⟩ := hp9
    have hP : va_P D vwCl (MdW om xS xV xB xT xA xP xR cI 1 mS mSv (nI q) mBf kLn mTl mAl mPl kBs kLf kAt kWl mRd kRm hsh) H := hP
    have hD : va_D (wr_in (MdW om xS xV xB xT xA xP xR cI thr mS mSv (nI q) mBf kLn mTl mAl mPl kBs kLf kAt kWl mRd kRm hsh)) (MdW om xS xV xB xT xA xP xR cI 1 mS mSv (nI q) mBf kLn mTl mAl mPl kBs kLf kAt kWl mRd kRm hsh) := hD
    refine W.eq (g2 := F0 m 26 ls [.int 0]) rfl ?_
    exact wr_iret hx hb hr hlocks hP hS rfl dX5_ifPushed_26 (by exact Or.inl ⟨c_10, rfl, rfl⟩)
  · obtain ⟨i, hi, ei⟩ := (gHas_iff hn8).mp c_10
    rw [ei] at hl
    have hl : lv_has ls 2 [(0, .ref om), (1, .int (nI i))] := hl
    refine lv_aload_n hx hb dX5_ifPushed_13 rfl (lv_at hl 0 rfl) ?_
    refine lv_iload_n hx hb dX5_ifPushed_14 rfl (lv_at hl 1 rfl) ?_
    refine wr_callV (As := [.int (nI i)]) (rest := []) ⟨hx, hb, hml, hown, hts⟩ (c_X5_makesRoom (P := P) l D (q := q) hq6 hn8 hQ hbk (w := i) hi) (cwV 1 hts gX5_ifPushed_X5_makesRoom rfl rfl rfl (by decide +kernel) ⟨by decide, by decide⟩) hK hN hZ hP hD hS [0, 1, 2, 3, 4, 5, 6, 7] [0] rfl (by decide) rfl (q0 := 0) rfl rfl rfl hl.1 rfl (Nat.le_of_ble_eq_true rfl) ⟨by decide, by decide⟩ dX5_ifPushed_15 (fun v9 w9 H locs hp9 hP hD hS => ?_)
    obtain ⟨rfl, al15, tl15, lf15, bs15, pl15, hmr, rfl⟩ := hp9
    have hP : va_P D vwCl (MdW om xS xV xB xT xA xP xR cI 0 mS mSv (nI q) mBf kLn tl15 al15 pl15 bs15 lf15 kAt kWl mRd kRm hsh) H := hP
    have hD : va_D (wr_in (MdW om xS xV xB xT xA xP xR cI thr mS mSv (nI q) mBf kLn mTl mAl mPl kBs kLf kAt kWl mRd kRm hsh)) (MdW om xS xV xB xT xA xP xR cI 0 mS mSv (nI q) mBf kLn tl15 al15 pl15 bs15 lf15 kAt kWl mRd kRm hsh) := hD
    refine W.eq (g2 := F0 m 18 ls [.int (mMr n P i mPl)]) rfl ?_
    refine lv_goto (tgt := 26) hx hb dX5_ifPushed_18 (by decide) ?_
    exact wr_iret hx hb hr hlocks hP hS rfl dX5_ifPushed_26 (by exact Or.inr ⟨i, hi, ei, rfl, _, _, _, _, _, rfl⟩)
set_option maxHeartbeats 4000000 in
set_option maxRecDepth 100000 in
theorem c_X5_fullPlans (l : Launch) (D : va_G) {om xS xV xB xT xA xP xR : Nat} {cI : ClassId} {thr kLn kBs kLf kAt kWl kRm : Int32} {hsh : Int64} {mS mSv mBf mTl mAl mPl mRd : Nat → Int32} {n : Nat} {P : Nat → Nat → Int32} {q : Nat} (hq6 : q ≤ 6) (hn8 : n ≤ 8) (hQ : mdS n P mS) (hbk : bd_ok n P) : wr_M l yX5_fullPlans wsX5_fullPlans ({ frames := 7, cells := 0, slots := 0, locals := 159 } : Room) D (MdW om xS xV xB xT xA xP xR cI thr mS mSv (nI q) mBf kLn mTl mAl mPl kBs kLf kAt kWl mRd kRm hsh) [(cI, .int)] [.ref om] (fun v w9 => v = some (.int (mFu n P mPl).1) ∧ ∃ al9 tl9 : Nat → Int32, w9 = MdW om xS xV xB xT xA xP xR cI 0 mS mSv (nI q) mBf kLn tl9 al9 ((mFu n P mPl).2) ((mFu n P mPl).1) 2 kAt kWl mRd kRm hsh) := by
  refine wr_of (cc := cX5_fullPlans) (maxL := 1) (ret := some .int) (by decide) rfl (Nat.le_of_ble_eq_true rfl) ?_
  intro p e s m below meth c hx hb hr hml hts hown hlocks hP hK hN hZ hD hS ls hl
  have hown : s.vm.findClass RX5 = some m.cls := hown
  have hl : lv_has ls 1 [(0, .ref om)] := hl
  have hinX5 : ∀ w ∈ u_ws RX5 TX5 16, w ∈ wsX5_fullPlans := by decide +kernel
  have hw31 := hts (.fieldLink RX5 31 "CornerLabelsModel" "thrown" "I") (by decide +kernel)
  suffices body : ∀ (H : Heap) (locs : List Loc), va_P D vwCl (MdW om xS xV xB xT xA xP xR cI thr mS mSv (nI q) mBf kLn mTl mAl mPl kBs kLf kAt kWl mRd kRm hsh) H → va_D (wr_in (MdW om xS xV xB xT xA xP xR cI thr mS mSv (nI q) mBf kLn mTl mAl mPl kBs kLf kAt kWl mRd kRm hsh)) (MdW om xS xV xB xT xA xP xR cI thr mS mSv (nI q) mBf kLn mTl mAl mPl kBs kLf kAt kWl mRd kRm hsh) → va_S (wr_in (MdW om xS xV xB xT xA xP xR cI thr mS mSv (nI q) mBf kLn mTl mAl mPl kBs kLf kAt kWl mRd kRm hsh)) s.heap H locs → wr_W p l e wsX5_fullPlans ({ frames := 7, cells := 0, slots := 0, locals := 159 } : Room) s m [.ref om] below meth c D (MdW om xS xV xB xT xA xP xR cI thr mS mSv (nI q) mBf kLn mTl mAl mPl kBs kLf kAt kWl mRd kRm hsh) (fun v w9 => v = some (.int (mFu n P mPl).1) ∧ ∃ al9 tl9 : Nat → Int32, w9 = MdW om xS xV xB xT xA xP xR cI 0 mS mSv (nI q) mBf kLn tl9 al9 ((mFu n P mPl).2) ((mFu n P mPl).1) 2 kAt kWl mRd kRm hsh) H locs (F0 m 0 ls []) from body _ _ hP hD hS
  clear hP hD hS
  intro H locs hP hD hS
  refine lv_aload_n hx hb dX5_fullPlans_0 rfl (lv_at hl 0 rfl) ?_
  refine lv_iconst (v := 0) hx hb dX5_fullPlans_1 (by decide) ?_
  refine va_put (D := D) (ci := 5) (v := .int 0) (ty := .int) (C := RX5) (T := TX5) (N := 16) hx hb hts hinX5 tyX5 tyX5_ok nmX5 hown hK hP hD hS 0 rfl rfl 0 (by decide) hw31 (fun _ h9 => h9) rfl (by decide +kernel) rfl rfl (Nat.le_of_ble_eq_true rfl) dX5_fullPlans_2 (fun H locs hP hD hS => ?_)
  have hP : va_P D vwCl (MdW om xS xV xB xT xA xP xR cI 0 mS mSv (nI q) mBf kLn mTl mAl mPl kBs kLf kAt kWl mRd kRm hsh) H := hP
  have hD : va_D (wr_in (MdW om xS xV xB xT xA xP xR cI thr mS mSv (nI q) mBf kLn mTl mAl mPl kBs kLf kAt kWl mRd kRm hsh)) (MdW om xS xV xB xT xA xP xR cI 0 mS mSv (nI q) mBf kLn mTl mAl mPl kBs kLf kAt kWl mRd kRm hsh) := hD
  refine lv_aload_n hx hb dX5_fullPlans_5 rfl (lv_at hl 0 rfl) ?_
  refine wr_callV (As := []) (rest := []) ⟨hx, hb, hml, hown, hts⟩ (c_X5_fulls (P := P) l D (q := q) hq6 hn8 hQ hbk) (cwV 0 hts gX5_fullPlans_X5_fulls rfl rfl rfl (by decide +kernel) ⟨by decide, by decide⟩) hK hN hZ hP hD hS [0, 1, 2, 3, 4, 5, 6, 7] [0] rfl (by decide) rfl (q0 := 0) rfl rfl rfl hl.1 rfl (Nat.le_of_ble_eq_true rfl) ⟨by decide, by decide⟩ dX5_fullPlans_6 (fun v9 w9 H locs hp9 hP hD hS => ?_)
  obtain ⟨rfl, al9, tl9, rfl⟩ := hp9
  have hP : va_P D vwCl (MdW om xS xV xB xT xA xP xR cI 0 mS mSv (nI q) mBf kLn tl9 al9 ((mFu n P mPl).2) ((mFu n P mPl).1) 2 kAt kWl mRd kRm hsh) H := hP
  have hD : va_D (wr_in (MdW om xS xV xB xT xA xP xR cI thr mS mSv (nI q) mBf kLn mTl mAl mPl kBs kLf kAt kWl mRd kRm hsh)) (MdW om xS xV xB xT xA xP xR cI 0 mS mSv (nI q) mBf kLn tl9 al9 ((mFu n P mPl).2) ((mFu n P mPl).1) 2 kAt kWl mRd kRm hsh) := hD
  refine W.eq (g2 := F0 m 9 ls [.int ((mFu n P mPl).1)]) rfl ?_
  exact wr_iret hx hb hr hlocks hP hS rfl dX5_fullPlans_9 (by exact ⟨rfl, _, _, rfl⟩)
set_option maxHeartbeats 4000000 in
set_option maxRecDepth 100000 in
theorem c_X5_dear (l : Launch) (D : va_G) {om xS xV xB xT xA xP xR : Nat} {cI : ClassId} {thr kLn kBs kLf kAt kWl kRm : Int32} {hsh : Int64} {mS mSv mBf mTl mAl mPl mRd : Nat → Int32} {n : Nat} {P : Nat → Nat → Int32} {q : Nat} (hq6 : q ≤ 6) (hn8 : n ≤ 8) (hQ : mdS n P mS) (hbk : bd_ok n P) : wr_M l yX5_dear wsX5_dear ({ frames := 7, cells := 0, slots := 0, locals := 160 } : Room) D (MdW om xS xV xB xT xA xP xR cI thr mS mSv (nI q) mBf kLn mTl mAl mPl kBs kLf kAt kWl mRd kRm hsh) [(cI, .int)] [.ref om] (fun v w9 => v = some (.int (mDear n P)) ∧ ∃ (al9 tl9 : Nat → Int32) (lf9 bs9 : Int32) (pl9 : Nat → Int32), w9 = MdW om xS xV xB xT xA xP xR cI thr mS mSv (nI q) mBf kLn tl9 al9 pl9 bs9 lf9 kAt kWl mRd kRm hsh) := by
  refine wr_of (cc := cX5_dear) (maxL := 5) (ret := some .int) (by decide) rfl (Nat.le_of_ble_eq_true rfl) ?_
  intro p e s m below meth c hx hb hr hml hts hown hlocks hP hK hN hZ hD hS ls hl
  have hown : s.vm.findClass RX5 = some m.cls := hown
  have hl : lv_has ls 5 [(0, .ref om)] := hl
  have hinX5 : ∀ w ∈ u_ws RX5 TX5 16, w ∈ wsX5_dear := by decide +kernel
  have hw7 := hts (.fieldLink RX5 7 "CornerLabelsModel" "s" "[I") (by decide +kernel)
  suffices body : ∀ (H : Heap) (locs : List Loc), va_P D vwCl (MdW om xS xV xB xT xA xP xR cI thr mS mSv (nI q) mBf kLn mTl mAl mPl kBs kLf kAt kWl mRd kRm hsh) H → va_D (wr_in (MdW om xS xV xB xT xA xP xR cI thr mS mSv (nI q) mBf kLn mTl mAl mPl kBs kLf kAt kWl mRd kRm hsh)) (MdW om xS xV xB xT xA xP xR cI thr mS mSv (nI q) mBf kLn mTl mAl mPl kBs kLf kAt kWl mRd kRm hsh) → va_S (wr_in (MdW om xS xV xB xT xA xP xR cI thr mS mSv (nI q) mBf kLn mTl mAl mPl kBs kLf kAt kWl mRd kRm hsh)) s.heap H locs → wr_W p l e wsX5_dear ({ frames := 7, cells := 0, slots := 0, locals := 160 } : Room) s m [.ref om] below meth c D (MdW om xS xV xB xT xA xP xR cI thr mS mSv (nI q) mBf kLn mTl mAl mPl kBs kLf kAt kWl mRd kRm hsh) (fun v w9 => v = some (.int (mDear n P)) ∧ ∃ (al9 tl9 : Nat → Int32) (lf9 bs9 : Int32) (pl9 : Nat → Int32), w9 = MdW om xS xV xB xT xA xP xR cI thr mS mSv (nI q) mBf kLn tl9 al9 pl9 bs9 lf9 kAt kWl mRd kRm hsh) H locs (F0 m 0 ls []) from body _ _ hP hD hS
  clear hP hD hS
  intro H locs hP hD hS
  refine lv_iconst (v := (-1)) hx hb dX5_dear_0 (by decide) ?_
  refine lv_istore_n (lv' := [(1, .int (-1)), (0, .ref om)]) hx hb dX5_dear_1 rfl hl (by decide) rfl (fun ls hl => ?_)
  refine lv_iconst (v := 0) hx hb dX5_dear_2 (by decide) ?_
  refine lv_istore_n (lv' := [(2, .int 0), (1, .int (-1)), (0, .ref om)]) hx hb dX5_dear_3 rfl hl (by decide) rfl (fun ls hl => ?_)
  refine lv_iconst (v := 0) hx hb dX5_dear_4 (by decide) ?_
  refine lv_istore_n (lv' := [(3, .int 0), (2, .int 0), (1, .int (-1)), (0, .ref om)]) hx hb dX5_dear_5 rfl hl (by decide) rfl (fun ls hl => ?_)
  suffices loop6 : ∀ (k6 i : Nat) (its : Int32) (mo : Int32) (a1 : Nat → Int32) (a2 : Nat → Int32) (a3 : Int32) (a4 : Int32) (a5 : Nat → Int32) (H : Heap) (locs : List Loc) (ls : Array Slot), i ≤ n → n + 1 ≤ i + k6 → (gP n (mDrF n P) 0 (-1, 0) = gP n (mDrF n P) i (its, mo)) → va_P D vwCl (MdW om xS xV xB xT xA xP xR cI thr mS mSv (nI q) mBf kLn a2 a1 a5 a4 a3 kAt kWl mRd kRm hsh) H → va_D (wr_in (MdW om xS xV xB xT xA xP xR cI thr mS mSv (nI q) mBf kLn mTl mAl mPl kBs kLf kAt kWl mRd kRm hsh)) (MdW om xS xV xB xT xA xP xR cI thr mS mSv (nI q) mBf kLn a2 a1 a5 a4 a3 kAt kWl mRd kRm hsh) → va_S (wr_in (MdW om xS xV xB xT xA xP xR cI thr mS mSv (nI q) mBf kLn mTl mAl mPl kBs kLf kAt kWl mRd kRm hsh)) s.heap H locs → lv_has ls 5 [(0, .ref om), (1, .int its), (2, .int mo), (3, .int (nI i))] → wr_W p l e wsX5_dear ({ frames := 7, cells := 0, slots := 0, locals := 160 } : Room) s m [.ref om] below meth c D (MdW om xS xV xB xT xA xP xR cI thr mS mSv (nI q) mBf kLn mTl mAl mPl kBs kLf kAt kWl mRd kRm hsh) (fun v w9 => v = some (.int (mDear n P)) ∧ ∃ (al9 tl9 : Nat → Int32) (lf9 bs9 : Int32) (pl9 : Nat → Int32), w9 = MdW om xS xV xB xT xA xP xR cI thr mS mSv (nI q) mBf kLn tl9 al9 pl9 bs9 lf9 kAt kWl mRd kRm hsh) H locs (F0 m 6 ls []) from
    loop6 (n + 1) 0 (-1) 0 mAl mTl kLf kBs mPl H locs ls (by omega) (by omega) (by rfl) hP hD hS (lv_sub hl [3, 2, 1, 0] rfl)
  intro k6
  induction k6 with
  | zero => intro i its mo a1 a2 a3 a4 a5 H locs ls h1 h2; exact absurd h2 (by omega)
  | succ k6 ih6 =>
    intro i its mo a1 a2 a3 a4 a5 H locs ls hle6 hlt6 inv6 hP hD hS hl
    refine lv_iload_n hx hb dX5_dear_6 rfl (lv_at hl 3 rfl) ?_
    refine lv_aload_n hx hb dX5_dear_7 rfl (lv_at hl 0 rfl) ?_
    refine va_get (D := D) (ci := 5) (v := .ref xS) (C := RX5) (T := TX5) (N := 16) hx hb hts hinX5 hown hK hP 0 rfl rfl 1 (by decide) hw7 (fun _ h9 => h9) rfl dX5_dear_8 ?_
    refine lv_iconst (v := 0) hx hb dX5_dear_11 (by decide) ?_
    refine rd_ald (q0 := 1) (t0 := 0) (j := 0) (v := nI n) hx hb hK hP rfl rfl (rfl) (by omega) (by decide) (hQ.1) dX5_dear_12 ?_
    refine rd_icmp_ge_n (a := i) (b := n) (tgt := 61) (by omega) (by omega) hx hb dX5_dear_13 (by decide) (fun c_13 => ?_) (fun c_13 => ?_)
    · have c_13n := Nat.not_lt.mpr c_13
      refine lv_iload_n hx hb dX5_dear_61 rfl (lv_at hl 1 rfl) ?_
      exact wr_iret hx hb hr hlocks hP hS rfl dX5_dear_62 (by exact ⟨by unfold mDear; rw [inv6, gP_end c_13], _, _, _, _, _, rfl⟩)
    · have c_13n := Nat.not_le.mpr c_13
      refine lv_aload_n hx hb dX5_dear_16 rfl (lv_at hl 0 rfl) ?_
      refine lv_iload_n hx hb dX5_dear_17 rfl (lv_at hl 3 rfl) ?_
      refine lv_iconst (v := 4) hx hb dX5_dear_18 (by decide) ?_
      have hmd : md_in (MdW om xS xV xB xT xA xP xR cI thr mS mSv (nI q) mBf kLn a2 a1 a5 a4 a3 kAt kWl mRd kRm hsh) [(cI, .int)] om n P := ⟨0, 1, 0, xS, cI, mS, _, rfl, rfl, rfl, rfl, hn8, hQ.1, hQ.2, hbk⟩
      refine rd_callV (As := [.int (nI i), .int 4]) (rest := []) ⟨hx, hb, hml, hown, hts⟩ (c_X5_of l D hmd c_13 (k := 4) (by decide)) (cwV 2 hts gX5_dear_X5_of rfl rfl rfl (by decide +kernel) ⟨by decide, by decide⟩) hK hN hP (q0 := 0) rfl rfl rfl hl.1 rfl (Nat.le_of_ble_eq_true rfl) ⟨by decide, by decide⟩ dX5_dear_19 ?_
      refine lv_asi (y := P i 4) (rfl) ?_
      refine lv_aload_n hx hb dX5_dear_22 rfl (lv_at hl 0 rfl) ?_
      refine lv_iload_n hx hb dX5_dear_23 rfl (lv_at hl 3 rfl) ?_
      refine wr_callV (As := [.int (nI i)]) (rest := [.int (P i 4)]) ⟨hx, hb, hml, hown, hts⟩ (c_X5_heaviest (P := P) l D (q := q) hq6 hn8 hQ hbk (nI i)) (cwV 1 hts gX5_dear_X5_heaviest rfl rfl rfl (by decide +kernel) ⟨by decide, by decide⟩) hK hN hZ hP hD hS [0, 1, 2, 3, 4, 5, 6, 7] [0] rfl (by decide) rfl (q0 := 0) rfl rfl rfl hl.1 rfl (Nat.le_of_ble_eq_true rfl) ⟨by decide, by decide⟩ dX5_dear_24 (fun v9 w9 H locs hp9 hP hD hS => ?_)
      obtain ⟨rfl, al24, tl24, rfl⟩ := hp9
      have hP : va_P D vwCl (MdW om xS xV xB xT xA xP xR cI thr mS mSv (nI q) mBf kLn tl24 al24 ((mHv n P (nI i) a5).2) ((mHv n P (nI i) a5).1) 0 kAt kWl mRd kRm hsh) H := hP
      have hD : va_D (wr_in (MdW om xS xV xB xT xA xP xR cI thr mS mSv (nI q) mBf kLn mTl mAl mPl kBs kLf kAt kWl mRd kRm hsh)) (MdW om xS xV xB xT xA xP xR cI thr mS mSv (nI q) mBf kLn tl24 al24 ((mHv n P (nI i) a5).2) ((mHv n P (nI i) a5).1) 0 kAt kWl mRd kRm hsh) := hD
      refine W.eq (g2 := F0 m 27 ls [.int ((mHv n P (nI i) a5).1), .int (P i 4)]) rfl ?_
      refine lv_asi (y := hvW n P (nI i)) (hvW_eq _ _ _ _) ?_
      refine lv_iadd hx hb dX5_dear_27 ?_
      refine lv_istore (lv' := [(4, .int ((P i 4) + (hvW n P (nI i)))), (0, .ref om), (1, .int its), (2, .int mo), (3, .int (nI i))]) hx hb dX5_dear_28 hl (by decide) rfl (fun ls hl => ?_)
      suffices j41 : ∀ ls : Array Slot, lv_has ls 5 [(4, .int ((P i 4) + (hvW n P (nI i)))), (0, .ref om), (1, .int its), (2, .int mo), (3, .int (nI i))] → wr_W p l e wsX5_dear ({ frames := 7, cells := 0, slots := 0, locals := 160 } : Room) s m [.ref om] below meth c D (MdW om xS xV xB xT xA xP xR cI thr mS mSv (nI q) mBf kLn mTl mAl mPl kBs kLf kAt kWl mRd kRm hsh) (fun v w9 => v = some (.int (mDear n P)) ∧ ∃ (al9 tl9 : Nat → Int32) (lf9 bs9 : Int32) (pl9 : Nat → Int32), w9 = MdW om xS xV xB xT xA xP xR cI thr mS mSv (nI q) mBf kLn tl9 al9 pl9 bs9 lf9 kAt kWl mRd kRm hsh) H locs (F0 m 41 ls [.int (if mo < P i 4 + hvW n P (nI i) then nI i else its)]) by
        refine lv_iload hx hb dX5_dear_30 (lv_at hl 0 rfl) ?_
        refine lv_iload_n hx hb dX5_dear_32 rfl (lv_at hl 3 rfl) ?_
        refine lv_icmp_le (tgt := 40) hx hb dX5_dear_33 (by decide) (fun c_33 => ?_) (fun c_33 => ?_)
        · have c_33n := Int32.not_lt.mpr c_33
          refine lv_iload_n hx hb dX5_dear_40 rfl (lv_at hl 2 rfl) ?_
          refine lv_asi (y := if mo < P i 4 + hvW n P (nI i) then nI i else its) (by simp [c_33, c_33n]) ?_
          exact j41 ls (lv_sub hl [0, 1, 2, 3, 4] rfl)
        · have c_33n := Int32.not_le.mp c_33
          refine lv_iload_n hx hb dX5_dear_36 rfl (lv_at hl 4 rfl) ?_
          refine lv_goto (tgt := 41) hx hb dX5_dear_37 (by decide) ?_
          refine lv_asi (y := if mo < P i 4 + hvW n P (nI i) then nI i else its) (by simp [c_33, c_33n]) ?_
          exact j41 ls (lv_sub hl [0, 1, 2, 3, 4] rfl)
      intro ls hl
      refine lv_istore_n (lv' := [(1, .int (if mo < P i 4 + hvW n P (nI i) then nI i else its)), (4, .int ((P i 4) + (hvW n P (nI i)))), (0, .ref om), (2, .int mo), (3, .int (nI i))]) hx hb dX5_dear_41 rfl hl (by decide) rfl (fun ls hl => ?_)
      suffices j54 : ∀ ls : Array Slot, lv_has ls 5 [(1, .int (if mo < P i 4 + hvW n P (nI i) then nI i else its)), (4, .int ((P i 4) + (hvW n P (nI i)))), (0, .ref om), (2, .int mo), (3, .int (nI i))] → wr_W p l e wsX5_dear ({ frames := 7, cells := 0, slots := 0, locals := 160 } : Room) s m [.ref om] below meth c D (MdW om xS xV xB xT xA xP xR cI thr mS mSv (nI q) mBf kLn mTl mAl mPl kBs kLf kAt kWl mRd kRm hsh) (fun v w9 => v = some (.int (mDear n P)) ∧ ∃ (al9 tl9 : Nat → Int32) (lf9 bs9 : Int32) (pl9 : Nat → Int32), w9 = MdW om xS xV xB xT xA xP xR cI thr mS mSv (nI q) mBf kLn tl9 al9 pl9 bs9 lf9 kAt kWl mRd kRm hsh) H locs (F0 m 54 ls [.int (if mo < P i 4 + hvW n P (nI i) then P i 4 + hvW n P (nI i) else mo)]) by
        refine lv_iload hx hb dX5_dear_42 (lv_at hl 1 rfl) ?_
        refine lv_iload_n hx hb dX5_dear_44 rfl (lv_at hl 3 rfl) ?_
        refine lv_icmp_le (tgt := 53) hx hb dX5_dear_45 (by decide) (fun c_45 => ?_) (fun c_45 => ?_)
        · have c_45n := Int32.not_lt.mpr c_45
          refine lv_iload_n hx hb dX5_dear_53 rfl (lv_at hl 3 rfl) ?_
          refine lv_asi (y := if mo < P i 4 + hvW n P (nI i) then P i 4 + hvW n P (nI i) else mo) (by simp [c_45, c_45n]) ?_
          exact j54 ls (lv_sub hl [0, 1, 2, 3, 4] rfl)
        · have c_45n := Int32.not_le.mp c_45
          refine lv_iload hx hb dX5_dear_48 (lv_at hl 1 rfl) ?_
          refine lv_goto (tgt := 54) hx hb dX5_dear_50 (by decide) ?_
          refine lv_asi (y := if mo < P i 4 + hvW n P (nI i) then P i 4 + hvW n P (nI i) else mo) (by simp [c_45, c_45n]) ?_
          exact j54 ls (lv_sub hl [0, 1, 2, 3, 4] rfl)
      intro ls hl
      refine lv_istore_n (lv' := [(2, .int (if mo < P i 4 + hvW n P (nI i) then P i 4 + hvW n P (nI i) else mo)), (1, .int (if mo < P i 4 + hvW n P (nI i) then nI i else its)), (4, .int ((P i 4) + (hvW n P (nI i)))), (0, .ref om), (3, .int (nI i))]) hx hb dX5_dear_54 rfl hl (by decide) rfl (fun ls hl => ?_)
      refine lv_iinc (v := nI (i + 1)) (lv' := [(3, .int (nI (i + 1))), (2, .int (if mo < P i 4 + hvW n P (nI i) then P i 4 + hvW n P (nI i) else mo)), (1, .int (if mo < P i 4 + hvW n P (nI i) then nI i else its)), (4, .int ((P i 4) + (hvW n P (nI i)))), (0, .ref om)]) hx hb dX5_dear_55 hl (k := 4) rfl (nI_add i 1) (by decide) rfl (fun ls hl => ?_)
      refine lv_goto (tgt := 6) hx hb dX5_dear_58 (by decide) ?_
      exact ih6 (i + 1) (if mo < P i 4 + hvW n P (nI i) then nI i else its) (if mo < P i 4 + hvW n P (nI i) then P i 4 + hvW n P (nI i) else mo) al24 tl24 0 ((mHv n P (nI i) a5).1) ((mHv n P (nI i) a5).2) H locs ls (by omega) (by omega) (by rw [inv6, gP_step c_13]; unfold mDrF; dsimp only; split <;> rfl) hP hD hS (lv_sub hl [4, 2, 1, 0] rfl)
set_option maxHeartbeats 4000000 in
set_option maxRecDepth 100000 in
theorem c_X5_dearest (l : Launch) (D : va_G) {om xS xV xB xT xA xP xR : Nat} {cI : ClassId} {thr kLn kBs kLf kAt kWl kRm : Int32} {hsh : Int64} {mS mSv mBf mTl mAl mPl mRd : Nat → Int32} {n : Nat} {P : Nat → Nat → Int32} {q : Nat} (hq6 : q ≤ 6) (hn8 : n ≤ 8) (hQ : mdS n P mS) (hbk : bd_ok n P) : wr_M l yX5_dearest wsX5_dearest ({ frames := 8, cells := 0, slots := 0, locals := 184 } : Room) D (MdW om xS xV xB xT xA xP xR cI thr mS mSv (nI q) mBf kLn mTl mAl mPl kBs kLf kAt kWl mRd kRm hsh) [(cI, .int)] [.ref om] (fun v w9 => v = some (.int (mDear n P)) ∧ ∃ (al9 tl9 : Nat → Int32) (lf9 bs9 : Int32) (pl9 : Nat → Int32), w9 = MdW om xS xV xB xT xA xP xR cI 0 mS mSv (nI q) mBf kLn tl9 al9 pl9 bs9 lf9 kAt kWl mRd kRm hsh) := by
  refine wr_of (cc := cX5_dearest) (maxL := 1) (ret := some .int) (by decide) rfl (Nat.le_of_ble_eq_true rfl) ?_
  intro p e s m below meth c hx hb hr hml hts hown hlocks hP hK hN hZ hD hS ls hl
  have hown : s.vm.findClass RX5 = some m.cls := hown
  have hl : lv_has ls 1 [(0, .ref om)] := hl
  have hinX5 : ∀ w ∈ u_ws RX5 TX5 16, w ∈ wsX5_dearest := by decide +kernel
  have hw31 := hts (.fieldLink RX5 31 "CornerLabelsModel" "thrown" "I") (by decide +kernel)
  suffices body : ∀ (H : Heap) (locs : List Loc), va_P D vwCl (MdW om xS xV xB xT xA xP xR cI thr mS mSv (nI q) mBf kLn mTl mAl mPl kBs kLf kAt kWl mRd kRm hsh) H → va_D (wr_in (MdW om xS xV xB xT xA xP xR cI thr mS mSv (nI q) mBf kLn mTl mAl mPl kBs kLf kAt kWl mRd kRm hsh)) (MdW om xS xV xB xT xA xP xR cI thr mS mSv (nI q) mBf kLn mTl mAl mPl kBs kLf kAt kWl mRd kRm hsh) → va_S (wr_in (MdW om xS xV xB xT xA xP xR cI thr mS mSv (nI q) mBf kLn mTl mAl mPl kBs kLf kAt kWl mRd kRm hsh)) s.heap H locs → wr_W p l e wsX5_dearest ({ frames := 8, cells := 0, slots := 0, locals := 184 } : Room) s m [.ref om] below meth c D (MdW om xS xV xB xT xA xP xR cI thr mS mSv (nI q) mBf kLn mTl mAl mPl kBs kLf kAt kWl mRd kRm hsh) (fun v w9 => v = some (.int (mDear n P)) ∧ ∃ (al9 tl9 : Nat → Int32) (lf9 bs9 : Int32) (pl9 : Nat → Int32), w9 = MdW om xS xV xB xT xA xP xR cI 0 mS mSv (nI q) mBf kLn tl9 al9 pl9 bs9 lf9 kAt kWl mRd kRm hsh) H locs (F0 m 0 ls []) from body _ _ hP hD hS
  clear hP hD hS
  intro H locs hP hD hS
  refine lv_aload_n hx hb dX5_dearest_0 rfl (lv_at hl 0 rfl) ?_
  refine lv_iconst (v := 0) hx hb dX5_dearest_1 (by decide) ?_
  refine va_put (D := D) (ci := 5) (v := .int 0) (ty := .int) (C := RX5) (T := TX5) (N := 16) hx hb hts hinX5 tyX5 tyX5_ok nmX5 hown hK hP hD hS 0 rfl rfl 0 (by decide) hw31 (fun _ h9 => h9) rfl (by decide +kernel) rfl rfl (Nat.le_of_ble_eq_true rfl) dX5_dearest_2 (fun H locs hP hD hS => ?_)
  have hP : va_P D vwCl (MdW om xS xV xB xT xA xP xR cI 0 mS mSv (nI q) mBf kLn mTl mAl mPl kBs kLf kAt kWl mRd kRm hsh) H := hP
  have hD : va_D (wr_in (MdW om xS xV xB xT xA xP xR cI thr mS mSv (nI q) mBf kLn mTl mAl mPl kBs kLf kAt kWl mRd kRm hsh)) (MdW om xS xV xB xT xA xP xR cI 0 mS mSv (nI q) mBf kLn mTl mAl mPl kBs kLf kAt kWl mRd kRm hsh) := hD
  refine lv_aload_n hx hb dX5_dearest_5 rfl (lv_at hl 0 rfl) ?_
  refine wr_callV (As := []) (rest := []) ⟨hx, hb, hml, hown, hts⟩ (c_X5_dear (P := P) l D (q := q) hq6 hn8 hQ hbk) (cwV 0 hts gX5_dearest_X5_dear rfl rfl rfl (by decide +kernel) ⟨by decide, by decide⟩) hK hN hZ hP hD hS [0, 1, 2, 3, 4, 5, 6, 7] [0] rfl (by decide) rfl (q0 := 0) rfl rfl rfl hl.1 rfl (Nat.le_of_ble_eq_true rfl) ⟨by decide, by decide⟩ dX5_dearest_6 (fun v9 w9 H locs hp9 hP hD hS => ?_)
  obtain ⟨rfl, al9, tl9, lf9, bs9, pl9, rfl⟩ := hp9
  have hP : va_P D vwCl (MdW om xS xV xB xT xA xP xR cI 0 mS mSv (nI q) mBf kLn tl9 al9 pl9 bs9 lf9 kAt kWl mRd kRm hsh) H := hP
  have hD : va_D (wr_in (MdW om xS xV xB xT xA xP xR cI thr mS mSv (nI q) mBf kLn mTl mAl mPl kBs kLf kAt kWl mRd kRm hsh)) (MdW om xS xV xB xT xA xP xR cI 0 mS mSv (nI q) mBf kLn tl9 al9 pl9 bs9 lf9 kAt kWl mRd kRm hsh) := hD
  refine W.eq (g2 := F0 m 9 ls [.int (mDear n P)]) rfl ?_
  exact wr_iret hx hb hr hlocks hP hS rfl dX5_dearest_9 (by exact ⟨rfl, _, _, _, _, _, rfl⟩)
