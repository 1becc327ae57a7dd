abbrev MdW (om xS xV xB xT xA xP xR : Nat) (cI : ClassId) (thr : Int32) (mS : Nat → Int32) (mSv : Nat → Int32) (kSm : Int32) (mBf : Nat → Int32) (kLn : Int32) (mTl : Nat → Int32) (mAl : Nat → Int32) (mPl : Nat → Int32) (kBs : Int32) (kLf : Int32) (kAt : Int32) (kWl : Int32) (mRd : Nat → Int32) (kRm : Int32) (hsh : Int64) : va_W := [(om, .inr (5, [.int thr, .ref xS, .ref xV, .int kSm, .ref xB, .int kLn, .ref xT, .ref xA, .ref xP, .int kBs, .int kLf, .int kAt, .int kWl, .ref xR, .int kRm, .long hsh])), (xS, .inl (cI, 49, .inl mS)), (xV, .inl (cI, 294, .inl mSv)), (xB, .inl (cI, 60, .inl mBf)), (xT, .inl (cI, 8, .inl mTl)), (xA, .inl (cI, 8, .inl mAl)), (xP, .inl (cI, 8, .inl mPl)), (xR, .inl (cI, 80, .inl mRd))]
set_option maxHeartbeats 4000000 in
set_option maxRecDepth 100000 in
theorem c_X5_thrown (l : Launch) (D : va_G) {om xS xV xB xT xA xP xR : Nat} {cI : ClassId} {thr kSm kLn kBs kLf kAt kWl kRm : Int32} {hsh : Int64} {mS mSv mBf mTl mAl mPl mRd : Nat → Int32} : wr_M l yX5_thrown wsX5_thrown ({ frames := 0, cells := 0, slots := 0, locals := 0 } : Room) D (MdW om xS xV xB xT xA xP xR cI thr mS mSv kSm mBf kLn mTl mAl mPl kBs kLf kAt kWl mRd kRm hsh) [(cI, .int)] [.ref om] (fun v w9 => v = some (.int thr) ∧ w9 = MdW om xS xV xB xT xA xP xR cI thr mS mSv kSm mBf kLn mTl mAl mPl kBs kLf kAt kWl mRd kRm hsh) := by
  refine wr_of (cc := cX5_thrown) (maxL := 1) (ret := some .int) (by decide) rfl (Nat.le_of_ble_eq_true rfl) ?_
  intro p e s m below meth c hx hb hr hml hts hown hlocks hP hK hN hZ hD hS ls hl
  have hown : s.vm.findClass RX5 = some m.cls := hown
  have hl : lv_has ls 1 [(0, .ref om)] := hl
  have hinX5 : ∀ w ∈ u_ws RX5 TX5 16, w ∈ wsX5_thrown := by decide +kernel
  have hw31 := hts (.fieldLink RX5 31 "CornerLabelsModel" "thrown" "I") (by decide +kernel)
  suffices body : ∀ (H : Heap) (locs : List Loc), va_P D vwCl (MdW om xS xV xB xT xA xP xR cI thr mS mSv kSm mBf kLn mTl mAl mPl kBs kLf kAt kWl mRd kRm hsh) H → va_D (wr_in (MdW om xS xV xB xT xA xP xR cI thr mS mSv kSm mBf kLn mTl mAl mPl kBs kLf kAt kWl mRd kRm hsh)) (MdW om xS xV xB xT xA xP xR cI thr mS mSv kSm mBf kLn mTl mAl mPl kBs kLf kAt kWl mRd kRm hsh) → va_S (wr_in (MdW om xS xV xB xT xA xP xR cI thr mS mSv kSm mBf kLn mTl mAl mPl kBs kLf kAt kWl mRd kRm hsh)) s.heap H locs → wr_W p l e wsX5_thrown ({ frames := 0, cells := 0, slots := 0, locals := 0 } : Room) s m [.ref om] below meth c D (MdW om xS xV xB xT xA xP xR cI thr mS mSv kSm mBf kLn mTl mAl mPl kBs kLf kAt kWl mRd kRm hsh) (fun v w9 => v = some (.int thr) ∧ w9 = MdW om xS xV xB xT xA xP xR cI thr mS mSv kSm mBf kLn mTl mAl mPl kBs kLf kAt kWl mRd kRm hsh) H locs (F0 m 0 ls []) from body _ _ hP hD hS
  clear hP hD hS
  intro H locs hP hD hS
  refine lv_aload_n hx hb dX5_thrown_0 rfl (lv_at hl 0 rfl) ?_
  refine va_get (D := D) (ci := 5) (v := .int thr) (C := RX5) (T := TX5) (N := 16) hx hb hts hinX5 hown hK hP 0 rfl rfl 0 (by decide) hw31 (fun _ h9 => h9) rfl dX5_thrown_1 ?_
  exact wr_iret hx hb hr hlocks hP hS rfl dX5_thrown_4 (by exact ⟨rfl, rfl⟩)
set_option maxHeartbeats 4000000 in
set_option maxRecDepth 100000 in
theorem c_X5_fails (l : Launch) (D : va_G) {om xS xV xB xT xA xP xR : Nat} {cI : ClassId} {thr kSm kLn kBs kLf kAt kWl kRm : Int32} {hsh : Int64} {mS mSv mBf mTl mAl mPl mRd : Nat → Int32} (k : Int32) : wr_M l yX5_fails wsX5_fails ({ frames := 0, cells := 0, slots := 0, locals := 0 } : Room) D (MdW om xS xV xB xT xA xP xR cI thr mS mSv kSm mBf kLn mTl mAl mPl kBs kLf kAt kWl mRd kRm hsh) [(cI, .int)] [.ref om, .int k] (fun v w9 => v = some (.int 0) ∧ w9 = MdW om xS xV xB xT xA xP xR cI k mS mSv kSm mBf kLn mTl mAl mPl kBs kLf kAt kWl mRd kRm hsh) := by
  refine wr_of (cc := cX5_fails) (maxL := 2) (ret := some .int) (by decide) rfl (Nat.le_of_ble_eq_true rfl) ?_
  intro p e s m below meth c hx hb hr hml hts hown hlocks hP hK hN hZ hD hS ls hl
  have hown : s.vm.findClass RX5 = some m.cls := hown
  have hl : lv_has ls 2 [(0, .ref om), (1, .int k)] := hl
  have hinX5 : ∀ w ∈ u_ws RX5 TX5 16, w ∈ wsX5_fails := by decide +kernel
  have hw31 := hts (.fieldLink RX5 31 "CornerLabelsModel" "thrown" "I") (by decide +kernel)
  suffices body : ∀ (H : Heap) (locs : List Loc), va_P D vwCl (MdW om xS xV xB xT xA xP xR cI thr mS mSv kSm mBf kLn mTl mAl mPl kBs kLf kAt kWl mRd kRm hsh) H → va_D (wr_in (MdW om xS xV xB xT xA xP xR cI thr mS mSv kSm mBf kLn mTl mAl mPl kBs kLf kAt kWl mRd kRm hsh)) (MdW om xS xV xB xT xA xP xR cI thr mS mSv kSm mBf kLn mTl mAl mPl kBs kLf kAt kWl mRd kRm hsh) → va_S (wr_in (MdW om xS xV xB xT xA xP xR cI thr mS mSv kSm mBf kLn mTl mAl mPl kBs kLf kAt kWl mRd kRm hsh)) s.heap H locs → wr_W p l e wsX5_fails ({ frames := 0, cells := 0, slots := 0, locals := 0 } : Room) s m [.ref om, .int k] below meth c D (MdW om xS xV xB xT xA xP xR cI thr mS mSv kSm mBf kLn mTl mAl mPl kBs kLf kAt kWl mRd kRm hsh) (fun v w9 => v = some (.int 0) ∧ w9 = MdW om xS xV xB xT xA xP xR cI k mS mSv kSm mBf kLn mTl mAl mPl kBs kLf kAt kWl mRd kRm hsh) H locs (F0 m 0 ls []) from body _ _ hP hD hS
  clear hP hD hS
  intro H locs hP hD hS
  refine lv_aload_n hx hb dX5_fails_0 rfl (lv_at hl 0 rfl) ?_
  refine lv_iload_n hx hb dX5_fails_1 rfl (lv_at hl 1 rfl) ?_
  refine va_put (D := D) (ci := 5) (v := .int k) (ty := .int) (C := RX5) (T := TX5) (N := 16) hx hb hts hinX5 tyX5 tyX5_ok nmX5 hown hK hP hD hS 0 rfl rfl 0 (by decide) hw31 (fun _ h9 => h9) rfl (by decide +kernel) rfl rfl (Nat.le_of_ble_eq_true rfl) dX5_fails_2 (fun H locs hP hD hS => ?_)
  have hP : va_P D vwCl (MdW om xS xV xB xT xA xP xR cI k mS mSv kSm mBf kLn mTl mAl mPl kBs kLf kAt kWl mRd kRm hsh) H := hP
  have hD : va_D (wr_in (MdW om xS xV xB xT xA xP xR cI thr mS mSv kSm mBf kLn mTl mAl mPl kBs kLf kAt kWl mRd kRm hsh)) (MdW om xS xV xB xT xA xP xR cI k mS mSv kSm mBf kLn mTl mAl mPl kBs kLf kAt kWl mRd kRm hsh) := hD
  refine lv_iconst (v := 0) hx hb dX5_fails_5 (by decide) ?_
  exact wr_iret hx hb hr hlocks hP hS rfl dX5_fails_6 (by exact ⟨rfl, rfl⟩)
set_option maxHeartbeats 4000000 in
set_option maxRecDepth 100000 in
theorem c_X5_stands (l : Launch) (D : va_G) {om xS xV xB xT xA xP xR : Nat} {cI : ClassId} {thr kSm kLn kBs kLf kAt kWl kRm : Int32} {hsh : Int64} {mS mSv mBf mTl mAl mPl mRd : Nat → Int32} {i : Nat} (hi : i < 8) (k : Int32) : wr_M l yX5_stands wsX5_stands ({ frames := 0, cells := 0, slots := 0, locals := 0 } : Room) D (MdW om xS xV xB xT xA xP xR cI thr mS mSv kSm mBf kLn mTl mAl mPl kBs kLf kAt kWl mRd kRm hsh) [(cI, .int)] [.ref om, .int (nI i), .int k] (fun v w9 => v = none ∧ w9 = MdW om xS xV xB xT xA xP xR cI thr (upd mS (1 + 6 * i + 5) (k + 1)) mSv kSm mBf kLn mTl mAl mPl kBs kLf kAt kWl mRd kRm hsh) := by
  refine wr_of (cc := cX5_stands) (maxL := 3) (ret := none) (by decide) rfl (Nat.le_of_ble_eq_true rfl) ?_
  intro p e s m below meth c hx hb hr hml hts hown hlocks hP hK hN hZ hD hS ls hl
  have hown : s.vm.findClass RX5 = some m.cls := hown
  have hl : lv_has ls 3 [(0, .ref om), (1, .int (nI i)), (2, .int k)] := hl
  have hinX5 : ∀ w ∈ u_ws RX5 TX5 16, w ∈ wsX5_stands := by decide +kernel
  have hw7 := hts (.fieldLink RX5 7 "CornerLabelsModel" "s" "[I") (by decide +kernel)
  suffices body : ∀ (H : Heap) (locs : List Loc), va_P D vwCl (MdW om xS xV xB xT xA xP xR cI thr mS mSv kSm mBf kLn mTl mAl mPl kBs kLf kAt kWl mRd kRm hsh) H → va_D (wr_in (MdW om xS xV xB xT xA xP xR cI thr mS mSv kSm mBf kLn mTl mAl mPl kBs kLf kAt kWl mRd kRm hsh)) (MdW om xS xV xB xT xA xP xR cI thr mS mSv kSm mBf kLn mTl mAl mPl kBs kLf kAt kWl mRd kRm hsh) → va_S (wr_in (MdW om xS xV xB xT xA xP xR cI thr mS mSv kSm mBf kLn mTl mAl mPl kBs kLf kAt kWl mRd kRm hsh)) s.heap H locs → wr_W p l e wsX5_stands ({ frames := 0, cells := 0, slots := 0, locals := 0 } : Room) s m [.ref om, .int (nI i), .int k] below meth c D (MdW om xS xV xB xT xA xP xR cI thr mS mSv kSm mBf kLn mTl mAl mPl kBs kLf kAt kWl mRd kRm hsh) (fun v w9 => v = none ∧ w9 = MdW om xS xV xB xT xA xP xR cI thr (upd mS (1 + 6 * i + 5) (k + 1)) mSv kSm mBf kLn mTl mAl mPl kBs kLf kAt kWl mRd kRm hsh) H locs (F0 m 0 ls []) from body _ _ hP hD hS
  clear hP hD hS
  intro H locs hP hD hS
  refine lv_aload_n hx hb dX5_stands_0 rfl (lv_at hl 0 rfl) ?_
  refine va_get (D := D) (ci := 5) (v := .ref xS) (C := RX5) (T := TX5) (N := 16) hx hb hts hinX5 hown hK hP 0 rfl rfl 1 (by decide) hw7 (fun _ h9 => h9) rfl dX5_stands_1 ?_
  refine lv_iconst (v := 1) hx hb dX5_stands_4 (by decide) ?_
  refine lv_bipush (v := 6) hx hb dX5_stands_5 (by decide) ?_
  refine lv_iload_n hx hb dX5_stands_7 rfl (lv_at hl 1 rfl) ?_
  refine lv_imul hx hb dX5_stands_8 ?_
  refine lv_asi (y := nI (6 * i)) (pk_mul 6 i) ?_
  refine lv_iadd hx hb dX5_stands_9 ?_
  refine lv_asi (y := nI (1 + (6 * i))) (nI_add 1 (6 * i)) ?_
  refine lv_iconst (v := 5) hx hb dX5_stands_10 (by decide) ?_
  refine lv_iadd hx hb dX5_stands_11 ?_
  refine lv_asi (y := nI ((1 + (6 * i)) + 5)) (nI_add (1 + (6 * i)) 5) ?_
  refine lv_iload_n hx hb dX5_stands_12 rfl (lv_at hl 2 rfl) ?_
  refine lv_iconst (v := 1) hx hb dX5_stands_13 (by decide) ?_
  refine lv_iadd hx hb dX5_stands_14 ?_
  refine wr_ast (q0 := 1) (t0 := 0) (j := (1 + (6 * i)) + 5) hx hb hK hP hD hS rfl rfl (rfl) (by omega) (by decide) dX5_stands_15 (fun H locs hP hD hS => ?_)
  obtain ⟨mS_15, emS_15⟩ : ∃ zz9 : Nat → Int32, zz9 = upd mS ((1 + (6 * i)) + 5) (k + 1) := ⟨_, rfl⟩
  rw [← emS_15] at hP hD
  have hP : va_P D vwCl (MdW om xS xV xB xT xA xP xR cI thr mS_15 mSv kSm mBf kLn mTl mAl mPl kBs kLf kAt kWl mRd kRm hsh) H := hP
  have hD : va_D (wr_in (MdW om xS xV xB xT xA xP xR cI thr mS mSv kSm mBf kLn mTl mAl mPl kBs kLf kAt kWl mRd kRm hsh)) (MdW om xS xV xB xT xA xP xR cI thr mS_15 mSv kSm mBf kLn mTl mAl mPl kBs kLf kAt kWl mRd kRm hsh) := hD
  exact wr_vret hx hb hr hlocks hP hS rfl dX5_stands_16 (by exact ⟨rfl, by rw [emS_15]⟩)
set_option maxHeartbeats 4000000 in
set_option maxRecDepth 100000 in
theorem c_X5_saves (l : Launch) (D : va_G) {om xS xV xB xT xA xP xR : Nat} {cI : ClassId} {thr kLn kBs kLf kAt kWl kRm : Int32} {hsh : Int64} {mS mSv mBf mTl mAl mPl mRd : Nat → Int32} {q : Nat} (hq6 : q ≤ 6) : wr_M l yX5_saves wsX5_saves ({ frames := 0, cells := 0, slots := 0, locals := 0 } : Room) D (MdW om xS xV xB xT xA xP xR cI thr mS mSv (nI q) mBf kLn mTl mAl mPl kBs kLf kAt kWl mRd kRm hsh) [(cI, .int)] [.ref om] (fun v w9 => v = none ∧ w9 = MdW om xS xV xB xT xA xP xR cI thr mS (svF q mSv mS) (nI ((if q < 6 then q else 5) + 1)) mBf kLn mTl mAl mPl kBs kLf kAt kWl mRd kRm hsh) := by
  refine wr_of (cc := cX5_saves) (maxL := 2) (ret := none) (by decide) rfl (Nat.le_of_ble_eq_true rfl) ?_
  intro p e s m below meth c hx hb hr hml hts hown hlocks hP hK hN hZ hD hS ls hl
  have hown : s.vm.findClass RX5 = some m.cls := hown
  have hl : lv_has ls 2 [(0, .ref om)] := hl
  have hinX5 : ∀ w ∈ u_ws RX5 TX5 16, w ∈ wsX5_saves := by decide +kernel
  have hw43 := hts (.fieldLink RX5 43 "CornerLabelsModel" "savedMany" "I") (by decide +kernel)
  have hw13 := hts (.fieldLink RX5 13 "CornerLabelsModel" "saved" "[I") (by decide +kernel)
  have hw7 := hts (.fieldLink RX5 7 "CornerLabelsModel" "s" "[I") (by decide +kernel)
  suffices body : ∀ (H : Heap) (locs : List Loc), va_P D vwCl (MdW om xS xV xB xT xA xP xR cI thr mS mSv (nI q) mBf kLn mTl mAl mPl kBs kLf kAt kWl mRd kRm hsh) H → va_D (wr_in (MdW om xS xV xB xT xA xP xR cI thr mS mSv (nI q) mBf kLn mTl mAl mPl kBs kLf kAt kWl mRd kRm hsh)) (MdW om xS xV xB xT xA xP xR cI thr mS mSv (nI q) mBf kLn mTl mAl mPl kBs kLf kAt kWl mRd kRm hsh) → va_S (wr_in (MdW om xS xV xB xT xA xP xR cI thr mS mSv (nI q) mBf kLn mTl mAl mPl kBs kLf kAt kWl mRd kRm hsh)) s.heap H locs → wr_W p l e wsX5_saves ({ frames := 0, cells := 0, slots := 0, locals := 0 } : Room) s m [.ref om] below meth c D (MdW om xS xV xB xT xA xP xR cI thr mS mSv (nI q) mBf kLn mTl mAl mPl kBs kLf kAt kWl mRd kRm hsh) (fun v w9 => v = none ∧ w9 = MdW om xS xV xB xT xA xP xR cI thr mS (svF q mSv mS) (nI ((if q < 6 then q else 5) + 1)) mBf kLn mTl mAl mPl kBs kLf kAt kWl mRd kRm hsh) H locs (F0 m 0 ls []) from body _ _ hP hD hS
  clear hP hD hS
  intro H locs hP hD hS
  refine lv_aload_n hx hb dX5_saves_0 rfl (lv_at hl 0 rfl) ?_
  refine va_get (D := D) (ci := 5) (v := .int (nI q)) (C := RX5) (T := TX5) (N := 16) hx hb hts hinX5 hown hK hP 0 rfl rfl 3 (by decide) hw43 (fun _ h9 => h9) rfl dX5_saves_1 ?_
  refine lv_bipush (v := 6) hx hb dX5_saves_4 (by decide) ?_
  refine rd_icmp_ne_n (a := q) (b := 6) (tgt := 49) (by omega) (by omega) hx hb dX5_saves_6 (by decide) (fun c_6 => ?_) (fun c_6 => ?_)
  · refine lv_iconst (v := 0) hx hb dX5_saves_49 (by decide) ?_
    refine lv_istore_n (lv' := [(1, .int 0), (0, .ref om)]) hx hb dX5_saves_50 rfl hl (by decide) rfl (fun ls hl => ?_)
    suffices loop51 : ∀ (k51 k : Nat) (v2 : Nat → Int32) (H : Heap) (locs : List Loc) (ls : Array Slot), k ≤ 49 → 49 + 1 ≤ k + k51 → (∀ z, v2 z = if 49 * q ≤ z ∧ z < 49 * q + k then mS (z - 49 * q) else mSv z) → va_P D vwCl (MdW om xS xV xB xT xA xP xR cI thr mS v2 (nI q) mBf kLn mTl mAl mPl kBs kLf kAt kWl mRd kRm hsh) H → va_D (wr_in (MdW om xS xV xB xT xA xP xR cI thr mS mSv (nI q) mBf kLn mTl mAl mPl kBs kLf kAt kWl mRd kRm hsh)) (MdW om xS xV xB xT xA xP xR cI thr mS v2 (nI q) mBf kLn mTl mAl mPl kBs kLf kAt kWl mRd kRm hsh) → va_S (wr_in (MdW om xS xV xB xT xA xP xR cI thr mS mSv (nI q) mBf kLn mTl mAl mPl kBs kLf kAt kWl mRd kRm hsh)) s.heap H locs → lv_has ls 2 [(0, .ref om), (1, .int (nI k))] → wr_W p l e wsX5_saves ({ frames := 0, cells := 0, slots := 0, locals := 0 } : Room) s m [.ref om] below meth c D (MdW om xS xV xB xT xA xP xR cI thr mS mSv (nI q) mBf kLn mTl mAl mPl kBs kLf kAt kWl mRd kRm hsh) (fun v w9 => v = none ∧ w9 = MdW om xS xV xB xT xA xP xR cI thr mS (svF q mSv mS) (nI ((if q < 6 then q else 5) + 1)) mBf kLn mTl mAl mPl kBs kLf kAt kWl mRd kRm hsh) H locs (F0 m 51 ls []) from
      loop51 (49 + 1) 0 mSv H locs ls (by omega) (by omega) (by exact fun z => by rw [if_neg (by omega)]) hP hD hS (lv_sub hl [1, 0] rfl)
    intro k51
    induction k51 with
    | zero => intro k v2 H locs ls h1 h2; exact absurd h2 (by omega)
    | succ k51 ih51 =>
      intro k v2 H locs ls hle51 hlt51 inv51 hP hD hS hl
      refine lv_iload_n hx hb dX5_saves_51 rfl (lv_at hl 1 rfl) ?_
      refine lv_bipush (v := 49) hx hb dX5_saves_52 (by decide) ?_
      refine rd_icmp_ge_n (a := k) (b := 49) (tgt := 83) (by omega) (by omega) hx hb dX5_saves_54 (by decide) (fun c_54 => ?_) (fun c_54 => ?_)
      · have c_54n := Nat.not_lt.mpr c_54
        refine lv_aload_n hx hb dX5_saves_83 rfl (lv_at hl 0 rfl) ?_
        refine lv_dup hx hb dX5_saves_84 rfl ?_
        refine va_get (D := D) (ci := 5) (v := .int (nI q)) (C := RX5) (T := TX5) (N := 16) hx hb hts hinX5 hown hK hP 0 rfl rfl 3 (by decide) hw43 (fun _ h9 => h9) rfl dX5_saves_85 ?_
        refine lv_iconst (v := 1) hx hb dX5_saves_88 (by decide) ?_
        refine lv_iadd hx hb dX5_saves_89 ?_
        refine lv_asi (y := nI (q + 1)) (nI_add q 1) ?_
        refine va_put (D := D) (ci := 5) (v := .int (nI (q + 1))) (ty := .int) (C := RX5) (T := TX5) (N := 16) hx hb hts hinX5 tyX5 tyX5_ok nmX5 hown hK hP hD hS 0 rfl rfl 3 (by decide) hw43 (fun _ h9 => h9) rfl (by decide +kernel) rfl rfl (Nat.le_of_ble_eq_true rfl) dX5_saves_90 (fun H locs hP hD hS => ?_)
        have hP : va_P D vwCl (MdW om xS xV xB xT xA xP xR cI thr mS v2 (nI (q + 1)) mBf kLn mTl mAl mPl kBs kLf kAt kWl mRd kRm hsh) H := hP
        have hD : va_D (wr_in (MdW om xS xV xB xT xA xP xR cI thr mS mSv (nI q) mBf kLn mTl mAl mPl kBs kLf kAt kWl mRd kRm hsh)) (MdW om xS xV xB xT xA xP xR cI thr mS v2 (nI (q + 1)) mBf kLn mTl mAl mPl kBs kLf kAt kWl mRd kRm hsh) := hD
        exact wr_vret hx hb hr hlocks hP hS rfl dX5_saves_93 (by exact ⟨rfl, by rw [svF_a (by omega) (by omega) inv51, if_pos (show q < 6 by omega)]⟩)
      · have c_54n := Nat.not_le.mpr c_54
        refine lv_aload_n hx hb dX5_saves_57 rfl (lv_at hl 0 rfl) ?_
        refine va_get (D := D) (ci := 5) (v := .ref xV) (C := RX5) (T := TX5) (N := 16) hx hb hts hinX5 hown hK hP 0 rfl rfl 2 (by decide) hw13 (fun _ h9 => h9) rfl dX5_saves_58 ?_
        refine lv_bipush (v := 49) hx hb dX5_saves_61 (by decide) ?_
        refine lv_aload_n hx hb dX5_saves_63 rfl (lv_at hl 0 rfl) ?_
        refine va_get (D := D) (ci := 5) (v := .int (nI q)) (C := RX5) (T := TX5) (N := 16) hx hb hts hinX5 hown hK hP 0 rfl rfl 3 (by decide) hw43 (fun _ h9 => h9) rfl dX5_saves_64 ?_
        refine lv_imul hx hb dX5_saves_67 ?_
        refine lv_asi (y := nI (49 * q)) (pk_mul 49 q) ?_
        refine lv_iload_n hx hb dX5_saves_68 rfl (lv_at hl 1 rfl) ?_
        refine lv_iadd hx hb dX5_saves_69 ?_
        refine lv_asi (y := nI ((49 * q) + k)) (nI_add (49 * q) k) ?_
        refine lv_aload_n hx hb dX5_saves_70 rfl (lv_at hl 0 rfl) ?_
        refine va_get (D := D) (ci := 5) (v := .ref xS) (C := RX5) (T := TX5) (N := 16) hx hb hts hinX5 hown hK hP 0 rfl rfl 1 (by decide) hw7 (fun _ h9 => h9) rfl dX5_saves_71 ?_
        refine lv_iload_n hx hb dX5_saves_74 rfl (lv_at hl 1 rfl) ?_
        refine rd_ald (q0 := 1) (t0 := 0) (j := k) (v := mS k) hx hb hK hP rfl rfl (rfl) (by omega) (by decide) (rfl) dX5_saves_75 ?_
        refine wr_ast (q0 := 2) (t0 := 0) (j := (49 * q) + k) hx hb hK hP hD hS rfl rfl (rfl) (by omega) (by decide) dX5_saves_76 (fun H locs hP hD hS => ?_)
        obtain ⟨mSv_76, emSv_76⟩ : ∃ zz9 : Nat → Int32, zz9 = upd v2 ((49 * q) + k) (mS k) := ⟨_, rfl⟩
        rw [← emSv_76] at hP hD
        have hP : va_P D vwCl (MdW om xS xV xB xT xA xP xR cI thr mS mSv_76 (nI q) mBf kLn mTl mAl mPl kBs kLf kAt kWl mRd kRm hsh) H := hP
        have hD : va_D (wr_in (MdW om xS xV xB xT xA xP xR cI thr mS mSv (nI q) mBf kLn mTl mAl mPl kBs kLf kAt kWl mRd kRm hsh)) (MdW om xS xV xB xT xA xP xR cI thr mS mSv_76 (nI q) mBf kLn mTl mAl mPl kBs kLf kAt kWl mRd kRm hsh) := hD
        refine lv_iinc (v := nI (k + 1)) (lv' := [(1, .int (nI (k + 1))), (0, .ref om)]) hx hb dX5_saves_77 hl (k := 1) rfl (nI_add k 1) (by decide) rfl (fun ls hl => ?_)
        refine lv_goto (tgt := 51) hx hb dX5_saves_80 (by decide) ?_
        exact ih51 (k + 1) mSv_76 H locs ls (by omega) (by omega) (by exact svF_put inv51 emSv_76) hP hD hS (lv_sub hl [1, 0] rfl)
  · refine lv_iconst (v := 0) hx hb dX5_saves_9 (by decide) ?_
    refine lv_istore_n (lv' := [(1, .int 0), (0, .ref om)]) hx hb dX5_saves_10 rfl hl (by decide) rfl (fun ls hl => ?_)
    suffices loop11 : ∀ (k11 k : Nat) (v1 : Nat → Int32) (H : Heap) (locs : List Loc) (ls : Array Slot), k ≤ 245 → 245 + 1 ≤ k + k11 → (∀ z, v1 z = if z < k then mSv (z + 49) else mSv z) → va_P D vwCl (MdW om xS xV xB xT xA xP xR cI thr mS v1 (nI q) mBf kLn mTl mAl mPl kBs kLf kAt kWl mRd kRm hsh) H → va_D (wr_in (MdW om xS xV xB xT xA xP xR cI thr mS mSv (nI q) mBf kLn mTl mAl mPl kBs kLf kAt kWl mRd kRm hsh)) (MdW om xS xV xB xT xA xP xR cI thr mS v1 (nI q) mBf kLn mTl mAl mPl kBs kLf kAt kWl mRd kRm hsh) → va_S (wr_in (MdW om xS xV xB xT xA xP xR cI thr mS mSv (nI q) mBf kLn mTl mAl mPl kBs kLf kAt kWl mRd kRm hsh)) s.heap H locs → lv_has ls 2 [(0, .ref om), (1, .int (nI k))] → wr_W p l e wsX5_saves ({ frames := 0, cells := 0, slots := 0, locals := 0 } : Room) s m [.ref om] below meth c D (MdW om xS xV xB xT xA xP xR cI thr mS mSv (nI q) mBf kLn mTl mAl mPl kBs kLf kAt kWl mRd kRm hsh) (fun v w9 => v = none ∧ w9 = MdW om xS xV xB xT xA xP xR cI thr mS (svF q mSv mS) (nI ((if q < 6 then q else 5) + 1)) mBf kLn mTl mAl mPl kBs kLf kAt kWl mRd kRm hsh) H locs (F0 m 11 ls []) from
      loop11 (245 + 1) 0 mSv H locs ls (by omega) (by omega) (by exact fun z => by rw [if_neg (by omega)]) hP hD hS (lv_sub hl [1, 0] rfl)
    intro k11
    induction k11 with
    | zero => intro k v1 H locs ls h1 h2; exact absurd h2 (by omega)
    | succ k11 ih11 =>
      intro k v1 H locs ls hle11 hlt11 inv11 hP hD hS hl
      refine lv_iload_n hx hb dX5_saves_11 rfl (lv_at hl 1 rfl) ?_
      refine lv_sipush (v := 245) hx hb dX5_saves_12 (by decide) ?_
      refine rd_icmp_ge_n (a := k) (b := 245) (tgt := 39) (by omega) (by omega) hx hb dX5_saves_15 (by decide) (fun c_15 => ?_) (fun c_15 => ?_)
      · have c_15n := Nat.not_lt.mpr c_15
        refine lv_aload_n hx hb dX5_saves_39 rfl (lv_at hl 0 rfl) ?_
        refine lv_dup hx hb dX5_saves_40 rfl ?_
        refine va_get (D := D) (ci := 5) (v := .int (nI q)) (C := RX5) (T := TX5) (N := 16) hx hb hts hinX5 hown hK hP 0 rfl rfl 3 (by decide) hw43 (fun _ h9 => h9) rfl dX5_saves_41 ?_
        refine lv_iconst (v := 1) hx hb dX5_saves_44 (by decide) ?_
        refine lv_isub hx hb dX5_saves_45 ?_
        refine lv_asi (y := 5) (by rw [c_6]; decide) ?_
        refine va_put (D := D) (ci := 5) (v := .int 5) (ty := .int) (C := RX5) (T := TX5) (N := 16) hx hb hts hinX5 tyX5 tyX5_ok nmX5 hown hK hP hD hS 0 rfl rfl 3 (by decide) hw43 (fun _ h9 => h9) rfl (by decide +kernel) rfl rfl (Nat.le_of_ble_eq_true rfl) dX5_saves_46 (fun H locs hP hD hS => ?_)
        have hP : va_P D vwCl (MdW om xS xV xB xT xA xP xR cI thr mS v1 5 mBf kLn mTl mAl mPl kBs kLf kAt kWl mRd kRm hsh) H := hP
        have hD : va_D (wr_in (MdW om xS xV xB xT xA xP xR cI thr mS mSv (nI q) mBf kLn mTl mAl mPl kBs kLf kAt kWl mRd kRm hsh)) (MdW om xS xV xB xT xA xP xR cI thr mS v1 5 mBf kLn mTl mAl mPl kBs kLf kAt kWl mRd kRm hsh) := hD
        refine lv_iconst (v := 0) hx hb dX5_saves_49 (by decide) ?_
        refine lv_istore_n (lv' := [(1, .int 0), (0, .ref om)]) hx hb dX5_saves_50 rfl hl (by decide) rfl (fun ls hl => ?_)
        suffices loop51 : ∀ (k51 k : Nat) (v2 : Nat → Int32) (H : Heap) (locs : List Loc) (ls : Array Slot), k ≤ 49 → 49 + 1 ≤ k + k51 → (∀ z, v2 z = if 49 * 5 ≤ z ∧ z < 49 * 5 + k then mS (z - 49 * 5) else v1 z) → va_P D vwCl (MdW om xS xV xB xT xA xP xR cI thr mS v2 5 mBf kLn mTl mAl mPl kBs kLf kAt kWl mRd kRm hsh) H → va_D (wr_in (MdW om xS xV xB xT xA xP xR cI thr mS mSv (nI q) mBf kLn mTl mAl mPl kBs kLf kAt kWl mRd kRm hsh)) (MdW om xS xV xB xT xA xP xR cI thr mS v2 5 mBf kLn mTl mAl mPl kBs kLf kAt kWl mRd kRm hsh) → va_S (wr_in (MdW om xS xV xB xT xA xP xR cI thr mS mSv (nI q) mBf kLn mTl mAl mPl kBs kLf kAt kWl mRd kRm hsh)) s.heap H locs → lv_has ls 2 [(0, .ref om), (1, .int (nI k))] → wr_W p l e wsX5_saves ({ frames := 0, cells := 0, slots := 0, locals := 0 } : Room) s m [.ref om] below meth c D (MdW om xS xV xB xT xA xP xR cI thr mS mSv (nI q) mBf kLn mTl mAl mPl kBs kLf kAt kWl mRd kRm hsh) (fun v w9 => v = none ∧ w9 = MdW om xS xV xB xT xA xP xR cI thr mS (svF q mSv mS) (nI ((if q < 6 then q else 5) + 1)) mBf kLn mTl mAl mPl kBs kLf kAt kWl mRd kRm hsh) H locs (F0 m 51 ls []) from
          loop51 (49 + 1) 0 v1 H locs ls (by omega) (by omega) (by exact fun z => by rw [if_neg (by omega)]) hP hD hS (lv_sub hl [1, 0] rfl)
        intro k51
        induction k51 with
        | zero => intro k v2 H locs ls h1 h2; exact absurd h2 (by omega)
        | succ k51 ih51 =>
          intro k v2 H locs ls hle51 hlt51 inv51 hP hD hS hl
          refine lv_iload_n hx hb dX5_saves_51 rfl (lv_at hl 1 rfl) ?_
          refine lv_bipush (v := 49) hx hb dX5_saves_52 (by decide) ?_
          refine rd_icmp_ge_n (a := k) (b := 49) (tgt := 83) (by omega) (by omega) hx hb dX5_saves_54 (by decide) (fun c_54 => ?_) (fun c_54 => ?_)
          · have c_54n := Nat.not_lt.mpr c_54
            refine lv_aload_n hx hb dX5_saves_83 rfl (lv_at hl 0 rfl) ?_
            refine lv_dup hx hb dX5_saves_84 rfl ?_
            refine va_get (D := D) (ci := 5) (v := .int 5) (C := RX5) (T := TX5) (N := 16) hx hb hts hinX5 hown hK hP 0 rfl rfl 3 (by decide) hw43 (fun _ h9 => h9) rfl dX5_saves_85 ?_
            refine lv_iconst (v := 1) hx hb dX5_saves_88 (by decide) ?_
            refine lv_iadd hx hb dX5_saves_89 ?_
            refine lv_asi (y := 6) (by decide) ?_
            refine va_put (D := D) (ci := 5) (v := .int 6) (ty := .int) (C := RX5) (T := TX5) (N := 16) hx hb hts hinX5 tyX5 tyX5_ok nmX5 hown hK hP hD hS 0 rfl rfl 3 (by decide) hw43 (fun _ h9 => h9) rfl (by decide +kernel) rfl rfl (Nat.le_of_ble_eq_true rfl) dX5_saves_90 (fun H locs hP hD hS => ?_)
            have hP : va_P D vwCl (MdW om xS xV xB xT xA xP xR cI thr mS v2 6 mBf kLn mTl mAl mPl kBs kLf kAt kWl mRd kRm hsh) H := hP
            have hD : va_D (wr_in (MdW om xS xV xB xT xA xP xR cI thr mS mSv (nI q) mBf kLn mTl mAl mPl kBs kLf kAt kWl mRd kRm hsh)) (MdW om xS xV xB xT xA xP xR cI thr mS v2 6 mBf kLn mTl mAl mPl kBs kLf kAt kWl mRd kRm hsh) := hD
            exact wr_vret hx hb hr hlocks hP hS rfl dX5_saves_93 (by subst c_6; exact ⟨rfl, by rw [svF_b (by omega) (by omega) inv11 inv51]; rfl⟩)
          · have c_54n := Nat.not_le.mpr c_54
            refine lv_aload_n hx hb dX5_saves_57 rfl (lv_at hl 0 rfl) ?_
            refine va_get (D := D) (ci := 5) (v := .ref xV) (C := RX5) (T := TX5) (N := 16) hx hb hts hinX5 hown hK hP 0 rfl rfl 2 (by decide) hw13 (fun _ h9 => h9) rfl dX5_saves_58 ?_
            refine lv_bipush (v := 49) hx hb dX5_saves_61 (by decide) ?_
            refine lv_aload_n hx hb dX5_saves_63 rfl (lv_at hl 0 rfl) ?_
            refine va_get (D := D) (ci := 5) (v := .int 5) (C := RX5) (T := TX5) (N := 16) hx hb hts hinX5 hown hK hP 0 rfl rfl 3 (by decide) hw43 (fun _ h9 => h9) rfl dX5_saves_64 ?_
            refine lv_imul hx hb dX5_saves_67 ?_
            refine lv_asi (y := 245) (by decide) ?_
            refine lv_iload_n hx hb dX5_saves_68 rfl (lv_at hl 1 rfl) ?_
            refine lv_iadd hx hb dX5_saves_69 ?_
            refine lv_asi (y := nI (245 + k)) (nI_add 245 k) ?_
            refine lv_aload_n hx hb dX5_saves_70 rfl (lv_at hl 0 rfl) ?_
            refine va_get (D := D) (ci := 5) (v := .ref xS) (C := RX5) (T := TX5) (N := 16) hx hb hts hinX5 hown hK hP 0 rfl rfl 1 (by decide) hw7 (fun _ h9 => h9) rfl dX5_saves_71 ?_
            refine lv_iload_n hx hb dX5_saves_74 rfl (lv_at hl 1 rfl) ?_
            refine rd_ald (q0 := 1) (t0 := 0) (j := k) (v := mS k) hx hb hK hP rfl rfl (rfl) (by omega) (by decide) (rfl) dX5_saves_75 ?_
            refine wr_ast (q0 := 2) (t0 := 0) (j := 245 + k) hx hb hK hP hD hS rfl rfl (rfl) (by omega) (by decide) dX5_saves_76 (fun H locs hP hD hS => ?_)
            obtain ⟨mSv_76, emSv_76⟩ : ∃ zz9 : Nat → Int32, zz9 = upd v2 (245 + k) (mS k) := ⟨_, rfl⟩
            rw [← emSv_76] at hP hD
            have hP : va_P D vwCl (MdW om xS xV xB xT xA xP xR cI thr mS mSv_76 5 mBf kLn mTl mAl mPl kBs kLf kAt kWl mRd kRm hsh) H := hP
            have hD : va_D (wr_in (MdW om xS xV xB xT xA xP xR cI thr mS mSv (nI q) mBf kLn mTl mAl mPl kBs kLf kAt kWl mRd kRm hsh)) (MdW om xS xV xB xT xA xP xR cI thr mS mSv_76 5 mBf kLn mTl mAl mPl kBs kLf kAt kWl mRd kRm hsh) := hD
            refine lv_iinc (v := nI (k + 1)) (lv' := [(1, .int (nI (k + 1))), (0, .ref om)]) hx hb dX5_saves_77 hl (k := 1) rfl (nI_add k 1) (by decide) rfl (fun ls hl => ?_)
            refine lv_goto (tgt := 51) hx hb dX5_saves_80 (by decide) ?_
            exact ih51 (k + 1) mSv_76 H locs ls (by omega) (by omega) (by exact svF_put inv51 emSv_76) hP hD hS (lv_sub hl [1, 0] rfl)
      · have c_15n := Nat.not_le.mpr c_15
        refine lv_aload_n hx hb dX5_saves_18 rfl (lv_at hl 0 rfl) ?_
        refine va_get (D := D) (ci := 5) (v := .ref xV) (C := RX5) (T := TX5) (N := 16) hx hb hts hinX5 hown hK hP 0 rfl rfl 2 (by decide) hw13 (fun _ h9 => h9) rfl dX5_saves_19 ?_
        refine lv_iload_n hx hb dX5_saves_22 rfl (lv_at hl 1 rfl) ?_
        refine lv_aload_n hx hb dX5_saves_23 rfl (lv_at hl 0 rfl) ?_
        refine va_get (D := D) (ci := 5) (v := .ref xV) (C := RX5) (T := TX5) (N := 16) hx hb hts hinX5 hown hK hP 0 rfl rfl 2 (by decide) hw13 (fun _ h9 => h9) rfl dX5_saves_24 ?_
        refine lv_iload_n hx hb dX5_saves_27 rfl (lv_at hl 1 rfl) ?_
        refine lv_bipush (v := 49) hx hb dX5_saves_28 (by decide) ?_
        refine lv_iadd hx hb dX5_saves_30 ?_
        refine lv_asi (y := nI (k + 49)) (nI_add k 49) ?_
        refine rd_ald (q0 := 2) (t0 := 0) (j := k + 49) (v := v1 (k + 49)) hx hb hK hP rfl rfl (rfl) (by omega) (by decide) (rfl) dX5_saves_31 ?_
        refine wr_ast (q0 := 2) (t0 := 0) (j := k) hx hb hK hP hD hS rfl rfl (rfl) (by omega) (by decide) dX5_saves_32 (fun H locs hP hD hS => ?_)
        obtain ⟨mSv_32, emSv_32⟩ : ∃ zz9 : Nat → Int32, zz9 = upd v1 k (v1 (k + 49)) := ⟨_, rfl⟩
        rw [← emSv_32] at hP hD
        have hP : va_P D vwCl (MdW om xS xV xB xT xA xP xR cI thr mS mSv_32 (nI q) mBf kLn mTl mAl mPl kBs kLf kAt kWl mRd kRm hsh) H := hP
        have hD : va_D (wr_in (MdW om xS xV xB xT xA xP xR cI thr mS mSv (nI q) mBf kLn mTl mAl mPl kBs kLf kAt kWl mRd kRm hsh)) (MdW om xS xV xB xT xA xP xR cI thr mS mSv_32 (nI q) mBf kLn mTl mAl mPl kBs kLf kAt kWl mRd kRm hsh) := hD
        refine lv_iinc (v := nI (k + 1)) (lv' := [(1, .int (nI (k + 1))), (0, .ref om)]) hx hb dX5_saves_33 hl (k := 1) rfl (nI_add k 1) (by decide) rfl (fun ls hl => ?_)
        refine lv_goto (tgt := 11) hx hb dX5_saves_36 (by decide) ?_
        exact ih11 (k + 1) mSv_32 H locs ls (by omega) (by omega) (by exact svF_shift c_15 inv11 emSv_32) hP hD hS (lv_sub hl [1, 0] rfl)
set_option maxHeartbeats 4000000 in
set_option maxRecDepth 100000 in
theorem c_X5_weigh (l : Launch) (D : va_G) {om xS xV xB xT xA xP xR : Nat} {cI : ClassId} {thr kLn kBs kLf kAt kWl kRm : Int32} {hsh : Int64} {mS mSv mBf mTl mAl mPl mRd : Nat → Int32} {n : Nat} {P : Nat → Nat → Int32} {q : Nat} (hq6 : q ≤ 6) (hn8 : n ≤ 8) (hQ : mdS n P mS) (hbk : bd_ok n P) (x y : Int32) : wr_M l yX5_weigh wsX5_weigh ({ frames := 2, cells := 0, slots := 0, locals := 43 } : Room) D (MdW om xS xV xB xT xA xP xR cI thr mS mSv (nI q) mBf kLn mTl mAl mPl kBs kLf kAt kWl mRd kRm hsh) [(cI, .int)] [.ref om, .int x, .int y] (fun v w9 => (gHas n x = false ∧ v = some (.int 0) ∧ w9 = MdW om xS xV xB xT xA xP xR cI 1 mS mSv (nI q) mBf kLn mTl mAl mPl kBs kLf kAt kWl mRd kRm hsh) ∨ (∃ i, i < n ∧ x = nI i ∧ ((mIn y 1 99 = false ∧ v = some (.int 0) ∧ w9 = MdW om xS xV xB xT xA xP xR cI 2 mS mSv (nI q) mBf kLn mTl mAl mPl kBs kLf kAt kWl mRd kRm hsh) ∨ (mIn y 1 99 = true ∧ v = some (.int (P i 4)) ∧ ∃ S9 : Nat → Int32, mdS n (gSet P i 4 y) S9 ∧ w9 = MdW om xS xV xB xT xA xP xR cI 0 S9 (svF q mSv mS) (nI ((if q < 6 then q else 5) + 1)) mBf kLn mTl mAl mPl kBs kLf kAt kWl mRd kRm hsh)))) := by
  refine wr_of (cc := cX5_weigh) (maxL := 4) (ret := some .int) (by decide) rfl (Nat.le_of_ble_eq_true rfl) ?_
  intro p e s m below meth c hx hb hr hml hts hown hlocks hP hK hN hZ hD hS ls hl
  have hown : s.vm.findClass RX5 = some m.cls := hown
  have hl : lv_has ls 4 [(0, .ref om), (1, .int x), (2, .int y)] := hl
  have hinX5 : ∀ w ∈ u_ws RX5 TX5 16, w ∈ wsX5_weigh := by decide +kernel
  have hw31 := hts (.fieldLink RX5 31 "CornerLabelsModel" "thrown" "I") (by decide +kernel)
  have hw7 := hts (.fieldLink RX5 7 "CornerLabelsModel" "s" "[I") (by decide +kernel)
  suffices body : ∀ (H : Heap) (locs : List Loc), va_P D vwCl (MdW om xS xV xB xT xA xP xR cI thr mS mSv (nI q) mBf kLn mTl mAl mPl kBs kLf kAt kWl mRd kRm hsh) H → va_D (wr_in (MdW om xS xV xB xT xA xP xR cI thr mS mSv (nI q) mBf kLn mTl mAl mPl kBs kLf kAt kWl mRd kRm hsh)) (MdW om xS xV xB xT xA xP xR cI thr mS mSv (nI q) mBf kLn mTl mAl mPl kBs kLf kAt kWl mRd kRm hsh) → va_S (wr_in (MdW om xS xV xB xT xA xP xR cI thr mS mSv (nI q) mBf kLn mTl mAl mPl kBs kLf kAt kWl mRd kRm hsh)) s.heap H locs → wr_W p l e wsX5_weigh ({ frames := 2, cells := 0, slots := 0, locals := 43 } : Room) s m [.ref om, .int x, .int y] below meth c D (MdW om xS xV xB xT xA xP xR cI thr mS mSv (nI q) mBf kLn mTl mAl mPl kBs kLf kAt kWl mRd kRm hsh) (fun v w9 => (gHas n x = false ∧ v = some (.int 0) ∧ w9 = MdW om xS xV xB xT xA xP xR cI 1 mS mSv (nI q) mBf kLn mTl mAl mPl kBs kLf kAt kWl mRd kRm hsh) ∨ (∃ i, i < n ∧ x = nI i ∧ ((mIn y 1 99 = false ∧ v = some (.int 0) ∧ w9 = MdW om xS xV xB xT xA xP xR cI 2 mS mSv (nI q) mBf kLn mTl mAl mPl kBs kLf kAt kWl mRd kRm hsh) ∨ (mIn y 1 99 = true ∧ v = some (.int (P i 4)) ∧ ∃ S9 : Nat → Int32, mdS n (gSet P i 4 y) S9 ∧ w9 = MdW om xS xV xB xT xA xP xR cI 0 S9 (svF q mSv mS) (nI ((if q < 6 then q else 5) + 1)) mBf kLn mTl mAl mPl kBs kLf kAt kWl mRd kRm hsh)))) H locs (F0 m 0 ls []) from body _ _ hP hD hS
  clear hP hD hS
  intro H locs hP hD hS
  refine lv_aload_n hx hb dX5_weigh_0 rfl (lv_at hl 0 rfl) ?_
  refine lv_iconst (v := 0) hx hb dX5_weigh_1 (by decide) ?_
  refine va_put (D := D) (ci := 5) (v := .int 0) (ty := .int) (C := RX5) (T := TX5) (N := 16) hx hb hts hinX5 tyX5 tyX5_ok nmX5 hown hK hP hD hS 0 rfl rfl 0 (by decide) hw31 (fun _ h9 => h9) rfl (by decide +kernel) rfl rfl (Nat.le_of_ble_eq_true rfl) dX5_weigh_2 (fun H locs hP hD hS => ?_)
  have hP : va_P D vwCl (MdW om xS xV xB xT xA xP xR cI 0 mS mSv (nI q) mBf kLn mTl mAl mPl kBs kLf kAt kWl mRd kRm hsh) H := hP
  have hD : va_D (wr_in (MdW om xS xV xB xT xA xP xR cI thr mS mSv (nI q) mBf kLn mTl mAl mPl kBs kLf kAt kWl mRd kRm hsh)) (MdW om xS xV xB xT xA xP xR cI 0 mS mSv (nI q) mBf kLn mTl mAl mPl kBs kLf kAt kWl mRd kRm hsh) := hD
  refine lv_aload_n hx hb dX5_weigh_5 rfl (lv_at hl 0 rfl) ?_
  refine lv_iload_n hx hb dX5_weigh_6 rfl (lv_at hl 1 rfl) ?_
  have hmd : md_in (MdW om xS xV xB xT xA xP xR cI 0 mS mSv (nI q) mBf kLn mTl mAl mPl kBs kLf kAt kWl mRd kRm hsh) [(cI, .int)] om n P := ⟨0, 1, 0, xS, cI, mS, _, rfl, rfl, rfl, rfl, hn8, hQ.1, hQ.2, hbk⟩
  refine rd_callV (As := [.int x]) (rest := []) ⟨hx, hb, hml, hown, hts⟩ (c_X5_isPoint l D hmd x) (cwV 1 hts gX5_weigh_X5_isPoint rfl rfl rfl (by decide +kernel) ⟨by decide, by decide⟩) hK hN hP (q0 := 0) rfl rfl rfl hl.1 rfl (Nat.le_of_ble_eq_true rfl) ⟨by decide, by decide⟩ dX5_weigh_7 ?_
  refine rd_ifne_b (tgt := 19) hx hb dX5_weigh_10 (by decide) (fun c_10 => ?_) (fun c_10 => ?_)
  · obtain ⟨i, hi, ei⟩ := (gHas_iff hn8).mp c_10
    rw [ei] at hl
    have hl : lv_has ls 4 [(0, .ref om), (1, .int (nI i)), (2, .int y)] := hl
    refine lv_iload_n hx hb dX5_weigh_19 rfl (lv_at hl 2 rfl) ?_
    refine lv_iconst (v := 1) hx hb dX5_weigh_20 (by decide) ?_
    refine lv_bipush (v := 99) hx hb dX5_weigh_21 (by decide) ?_
    refine rd_callS (As := [.int y, .int 1, .int 99]) (rest := []) ⟨hx, hb, hml, hown, hts⟩ (c_X5_in l D y 1 99) (va_cwS 3 hts gX5_weigh_X5_in rfl rfl rfl (by decide +kernel) ⟨by decide, by decide⟩) hK hN hP rfl hl.1 rfl (Nat.le_of_ble_eq_true rfl) ⟨by decide, by decide⟩ dX5_weigh_23 ?_
    refine rd_ifne_b (tgt := 35) hx hb dX5_weigh_26 (by decide) (fun c_26 => ?_) (fun c_26 => ?_)
    · refine lv_aload_n hx hb dX5_weigh_35 rfl (lv_at hl 0 rfl) ?_
      refine wr_callV (As := []) (rest := []) ⟨hx, hb, hml, hown, hts⟩ (c_X5_saves l D (q := q) hq6) (cwV 0 hts gX5_weigh_X5_saves rfl rfl rfl (by decide +kernel) ⟨by decide, by decide⟩) hK hN hZ hP hD hS [0, 1, 2, 3, 4, 5, 6, 7] [0] rfl (by decide) rfl (q0 := 0) rfl rfl rfl hl.1 rfl (Nat.le_of_ble_eq_true rfl) ⟨by decide, by decide⟩ dX5_weigh_36 (fun v9 w9 H locs hp9 hP hD hS => ?_)
      obtain ⟨rfl, rfl⟩ := hp9
      have hP : va_P D vwCl (MdW om xS xV xB xT xA xP xR cI 0 mS (svF q mSv mS) (nI ((if q < 6 then q else 5) + 1)) mBf kLn mTl mAl mPl kBs kLf kAt kWl mRd kRm hsh) H := hP
      have hD : va_D (wr_in (MdW om xS xV xB xT xA xP xR cI thr mS mSv (nI q) mBf kLn mTl mAl mPl kBs kLf kAt kWl mRd kRm hsh)) (MdW om xS xV xB xT xA xP xR cI 0 mS (svF q mSv mS) (nI ((if q < 6 then q else 5) + 1)) mBf kLn mTl mAl mPl kBs kLf kAt kWl mRd kRm hsh) := hD
      refine W.eq (g2 := F0 m 39 ls []) rfl ?_
      refine lv_aload_n hx hb dX5_weigh_39 rfl (lv_at hl 0 rfl) ?_
      refine lv_iload_n hx hb dX5_weigh_40 rfl (lv_at hl 1 rfl) ?_
      refine lv_iconst (v := 4) hx hb dX5_weigh_41 (by decide) ?_
      have hmd : md_in (MdW om xS xV xB xT xA xP xR cI 0 mS (svF q mSv mS) (nI ((if q < 6 then q else 5) + 1)) mBf kLn mTl mAl mPl kBs kLf kAt kWl mRd kRm hsh) [(cI, .int)] om n P := ⟨0, 1, 0, xS, cI, mS, _, rfl, rfl, rfl, rfl, hn8, hQ.1, hQ.2, hbk⟩
      refine rd_callV (As := [.int (nI i), .int 4]) (rest := []) ⟨hx, hb, hml, hown, hts⟩ (c_X5_of l D hmd hi (k := 4) (by decide)) (cwV 2 hts gX5_weigh_X5_of rfl rfl rfl (by decide +kernel) ⟨by decide, by decide⟩) hK hN hP (q0 := 0) rfl rfl rfl hl.1 rfl (Nat.le_of_ble_eq_true rfl) ⟨by decide, by decide⟩ dX5_weigh_42 ?_
      refine lv_asi (y := P i 4) (rfl) ?_
      refine lv_istore_n (lv' := [(3, .int (P i 4)), (0, .ref om), (1, .int (nI i)), (2, .int y)]) hx hb dX5_weigh_45 rfl hl (by decide) rfl (fun ls hl => ?_)
      refine lv_aload_n hx hb dX5_weigh_46 rfl (lv_at hl 1 rfl) ?_
      refine va_get (D := D) (ci := 5) (v := .ref xS) (C := RX5) (T := TX5) (N := 16) hx hb hts hinX5 hown hK hP 0 rfl rfl 1 (by decide) hw7 (fun _ h9 => h9) rfl dX5_weigh_47 ?_
      refine lv_iconst (v := 1) hx hb dX5_weigh_50 (by decide) ?_
      refine lv_bipush (v := 6) hx hb dX5_weigh_51 (by decide) ?_
      refine lv_iload_n hx hb dX5_weigh_53 rfl (lv_at hl 2 rfl) ?_
      refine lv_imul hx hb dX5_weigh_54 ?_
      refine lv_asi (y := nI (6 * i)) (pk_mul 6 i) ?_
      refine lv_iadd hx hb dX5_weigh_55 ?_
      refine lv_asi (y := nI (1 + (6 * i))) (nI_add 1 (6 * i)) ?_
      refine lv_iconst (v := 4) hx hb dX5_weigh_56 (by decide) ?_
      refine lv_iadd hx hb dX5_weigh_57 ?_
      refine lv_asi (y := nI ((1 + (6 * i)) + 4)) (nI_add (1 + (6 * i)) 4) ?_
      refine lv_iload_n hx hb dX5_weigh_58 rfl (lv_at hl 3 rfl) ?_
      refine wr_ast (q0 := 1) (t0 := 0) (j := (1 + (6 * i)) + 4) hx hb hK hP hD hS rfl rfl (rfl) (by omega) (by decide) dX5_weigh_59 (fun H locs hP hD hS => ?_)
      obtain ⟨mS_59, emS_59⟩ : ∃ zz9 : Nat → Int32, zz9 = upd mS ((1 + (6 * i)) + 4) y := ⟨_, rfl⟩
      rw [← emS_59] at hP hD
      have hP : va_P D vwCl (MdW om xS xV xB xT xA xP xR cI 0 mS_59 (svF q mSv mS) (nI ((if q < 6 then q else 5) + 1)) mBf kLn mTl mAl mPl kBs kLf kAt kWl mRd kRm hsh) H := hP
      have hD : va_D (wr_in (MdW om xS xV xB xT xA xP xR cI thr mS mSv (nI q) mBf kLn mTl mAl mPl kBs kLf kAt kWl mRd kRm hsh)) (MdW om xS xV xB xT xA xP xR cI 0 mS_59 (svF q mSv mS) (nI ((if q < 6 then q else 5) + 1)) mBf kLn mTl mAl mPl kBs kLf kAt kWl mRd kRm hsh) := hD
      refine lv_iload_n hx hb dX5_weigh_60 rfl (lv_at hl 0 rfl) ?_
      exact wr_iret hx hb hr hlocks hP hS rfl dX5_weigh_61 (by exact Or.inr ⟨i, hi, ei, Or.inr ⟨c_26, rfl, _, mdS_set hi (by decide) hQ emS_59, rfl⟩⟩)
    · refine lv_aload_n hx hb dX5_weigh_29 rfl (lv_at hl 0 rfl) ?_
      refine lv_iconst (v := 2) hx hb dX5_weigh_30 (by decide) ?_
      refine wr_callV (As := [.int 2]) (rest := []) ⟨hx, hb, hml, hown, hts⟩ (c_X5_fails l D 2) (cwV 1 hts gX5_weigh_X5_fails rfl rfl rfl (by decide +kernel) ⟨by decide, by decide⟩) hK hN hZ hP hD hS [0, 1, 2, 3, 4, 5, 6, 7] [0] rfl (by decide) rfl (q0 := 0) rfl rfl rfl hl.1 rfl (Nat.le_of_ble_eq_true rfl) ⟨by decide, by decide⟩ dX5_weigh_31 (fun v9 w9 H locs hp9 hP hD hS => ?_)
      obtain ⟨rfl, rfl⟩ := hp9
      have hP : va_P D vwCl (MdW om xS xV xB xT xA xP xR cI 2 mS mSv (nI q) mBf kLn mTl mAl mPl kBs kLf kAt kWl mRd kRm hsh) H := hP
      have hD : va_D (wr_in (MdW om xS xV xB xT xA xP xR cI thr mS mSv (nI q) mBf kLn mTl mAl mPl kBs kLf kAt kWl mRd kRm hsh)) (MdW om xS xV xB xT xA xP xR cI 2 mS mSv (nI q) mBf kLn mTl mAl mPl kBs kLf kAt kWl mRd kRm hsh) := hD
      refine W.eq (g2 := F0 m 34 ls [.int 0]) rfl ?_
      exact wr_iret hx hb hr hlocks hP hS rfl dX5_weigh_34 (by exact Or.inr ⟨i, hi, ei, Or.inl ⟨c_26, rfl, rfl⟩⟩)
  · refine lv_aload_n hx hb dX5_weigh_13 rfl (lv_at hl 0 rfl) ?_
    refine lv_iconst (v := 1) hx hb dX5_weigh_14 (by decide) ?_
    refine wr_callV (As := [.int 1]) (rest := []) ⟨hx, hb, hml, hown, hts⟩ (c_X5_fails l D 1) (cwV 1 hts gX5_weigh_X5_fails rfl rfl rfl (by decide +kernel) ⟨by decide, by decide⟩) hK hN hZ hP hD hS [0, 1, 2, 3, 4, 5, 6, 7] [0] rfl (by decide) rfl (q0 := 0) rfl rfl rfl hl.1 rfl (Nat.le_of_ble_eq_true rfl) ⟨by decide, by decide⟩ dX5_weigh_15 (fun v9 w9 H locs hp9 hP hD hS => ?_)
    obtain ⟨rfl, rfl⟩ := hp9
    have hP : va_P D vwCl (MdW om xS xV xB xT xA xP xR cI 1 mS mSv (nI q) mBf kLn mTl mAl mPl kBs kLf kAt kWl mRd kRm hsh) H := hP
    have hD : va_D (wr_in (MdW om xS xV xB xT xA xP xR cI thr mS mSv (nI q) mBf kLn mTl mAl mPl kBs kLf kAt kWl mRd kRm hsh)) (MdW om xS xV xB xT xA xP xR cI 1 mS mSv (nI q) mBf kLn mTl mAl mPl kBs kLf kAt kWl mRd kRm hsh) := hD
    refine W.eq (g2 := F0 m 18 ls [.int 0]) rfl ?_
    exact wr_iret hx hb hr hlocks hP hS rfl dX5_weigh_18 (by exact Or.inl ⟨c_10, rfl, rfl⟩)
set_option maxHeartbeats 4000000 in
set_option maxRecDepth 100000 in
theorem c_X5_resize (l : Launch) (D : va_G) {om xS xV xB xT xA xP xR : Nat} {cI : ClassId} {thr kLn kBs kLf kAt kWl kRm : Int32} {hsh : Int64} {mS mSv mBf mTl mAl mPl mRd : Nat → Int32} {n : Nat} {P : Nat → Nat → Int32} {q : Nat} (hq6 : q ≤ 6) (hn8 : n ≤ 8) (hQ : mdS n P mS) (hbk : bd_ok n P) (x y z : Int32) : wr_M l yX5_resize wsX5_resize ({ frames := 6, cells := 0, slots := 0, locals := 137 } : Room) D (MdW om xS xV xB xT xA xP xR cI thr mS mSv (nI q) mBf kLn mTl mAl mPl kBs kLf kAt kWl mRd kRm hsh) [(cI, .int)] [.ref om, .int x, .int y, .int z] (fun v w9 => (gHas n x = false ∧ v = some (.int 0) ∧ w9 = MdW om xS xV xB xT xA xP xR cI 1 mS mSv (nI q) mBf kLn mTl mAl mPl kBs kLf kAt kWl mRd kRm hsh) ∨ (∃ i, i < n ∧ x = nI i ∧ (((mIn y 1 20 && mIn z 1 9) = false ∧ v = some (.int 0) ∧ w9 = MdW om xS xV xB xT xA xP xR cI 2 mS mSv (nI q) mBf kLn mTl mAl mPl kBs kLf kAt kWl mRd kRm hsh) ∨ ((mIn y 1 20 && mIn z 1 9) = true ∧ v = some (.int (mOnes (gMk n (gSet (gSet (gSet P i 2 y) i 3 z) i 5 (-1)) i))) ∧ ∃ S9 : Nat → Int32, mdS n (gSet (gSet (gSet P i 2 y) i 3 z) i 5 (-1)) S9 ∧ w9 = MdW om xS xV xB xT xA xP xR cI 0 S9 (svF q mSv mS) (nI ((if q < 6 then q else 5) + 1)) mBf kLn mTl mAl mPl kBs kLf kAt kWl mRd kRm hsh)))) := by
  refine wr_of (cc := cX5_resize) (maxL := 4) (ret := some .int) (by decide) rfl (Nat.le_of_ble_eq_true rfl) ?_
  intro p e s m below meth c hx hb hr hml hts hown hlocks hP hK hN hZ hD hS ls hl
  have hown : s.vm.findClass RX5 = some m.cls := hown
  have hl : lv_has ls 4 [(0, .ref om), (1, .int x), (2, .int y), (3, .int z)] := hl
  have hinX5 : ∀ w ∈ u_ws RX5 TX5 16, w ∈ wsX5_resize := by decide +kernel
  have hw31 := hts (.fieldLink RX5 31 "CornerLabelsModel" "thrown" "I") (by decide +kernel)
  have hw7 := hts (.fieldLink RX5 7 "CornerLabelsModel" "s" "[I") (by decide +kernel)
  suffices body : ∀ (H : Heap) (locs : List Loc), va_P D vwCl (MdW om xS xV xB xT xA xP xR cI thr mS mSv (nI q) mBf kLn mTl mAl mPl kBs kLf kAt kWl mRd kRm hsh) H → va_D (wr_in (MdW om xS xV xB xT xA xP xR cI thr mS mSv (nI q) mBf kLn mTl mAl mPl kBs kLf kAt kWl mRd kRm hsh)) (MdW om xS xV xB xT xA xP xR cI thr mS mSv (nI q) mBf kLn mTl mAl mPl kBs kLf kAt kWl mRd kRm hsh) → va_S (wr_in (MdW om xS xV xB xT xA xP xR cI thr mS mSv (nI q) mBf kLn mTl mAl mPl kBs kLf kAt kWl mRd kRm hsh)) s.heap H locs → wr_W p l e wsX5_resize ({ frames := 6, cells := 0, slots := 0, locals := 137 } : Room) s m [.ref om, .int x, .int y, .int z] below meth c D (MdW om xS xV xB xT xA xP xR cI thr mS mSv (nI q) mBf kLn mTl mAl mPl kBs kLf kAt kWl mRd kRm hsh) (fun v w9 => (gHas n x = false ∧ v = some (.int 0) ∧ w9 = MdW om xS xV xB xT xA xP xR cI 1 mS mSv (nI q) mBf kLn mTl mAl mPl kBs kLf kAt kWl mRd kRm hsh) ∨ (∃ i, i < n ∧ x = nI i ∧ (((mIn y 1 20 && mIn z 1 9) = false ∧ v = some (.int 0) ∧ w9 = MdW om xS xV xB xT xA xP xR cI 2 mS mSv (nI q) mBf kLn mTl mAl mPl kBs kLf kAt kWl mRd kRm hsh) ∨ ((mIn y 1 20 && mIn z 1 9) = true ∧ v = some (.int (mOnes (gMk n (gSet (gSet (gSet P i 2 y) i 3 z) i 5 (-1)) i))) ∧ ∃ S9 : Nat → Int32, mdS n (gSet (gSet (gSet P i 2 y) i 3 z) i 5 (-1)) S9 ∧ w9 = MdW om xS xV xB xT xA xP xR cI 0 S9 (svF q mSv mS) (nI ((if q < 6 then q else 5) + 1)) mBf kLn mTl mAl mPl kBs kLf kAt kWl mRd kRm hsh)))) H locs (F0 m 0 ls []) from body _ _ hP hD hS
  clear hP hD hS
  intro H locs hP hD hS
  refine lv_aload_n hx hb dX5_resize_0 rfl (lv_at hl 0 rfl) ?_
  refine lv_iconst (v := 0) hx hb dX5_resize_1 (by decide) ?_
  refine va_put (D := D) (ci := 5) (v := .int 0) (ty := .int) (C := RX5) (T := TX5) (N := 16) hx hb hts hinX5 tyX5 tyX5_ok nmX5 hown hK hP hD hS 0 rfl rfl 0 (by decide) hw31 (fun _ h9 => h9) rfl (by decide +kernel) rfl rfl (Nat.le_of_ble_eq_true rfl) dX5_resize_2 (fun H locs hP hD hS => ?_)
  have hP : va_P D vwCl (MdW om xS xV xB xT xA xP xR cI 0 mS mSv (nI q) mBf kLn mTl mAl mPl kBs kLf kAt kWl mRd kRm hsh) H := hP
  have hD : va_D (wr_in (MdW om xS xV xB xT xA xP xR cI thr mS mSv (nI q) mBf kLn mTl mAl mPl kBs kLf kAt kWl mRd kRm hsh)) (MdW om xS xV xB xT xA xP xR cI 0 mS mSv (nI q) mBf kLn mTl mAl mPl kBs kLf kAt kWl mRd kRm hsh) := hD
  refine lv_aload_n hx hb dX5_resize_5 rfl (lv_at hl 0 rfl) ?_
  refine lv_iload_n hx hb dX5_resize_6 rfl (lv_at hl 1 rfl) ?_
  have hmd : md_in (MdW om xS xV xB xT xA xP xR cI 0 mS mSv (nI q) mBf kLn mTl mAl mPl kBs kLf kAt kWl mRd kRm hsh) [(cI, .int)] om n P := ⟨0, 1, 0, xS, cI, mS, _, rfl, rfl, rfl, rfl, hn8, hQ.1, hQ.2, hbk⟩
  refine rd_callV (As := [.int x]) (rest := []) ⟨hx, hb, hml, hown, hts⟩ (c_X5_isPoint l D hmd x) (cwV 1 hts gX5_resize_X5_isPoint rfl rfl rfl (by decide +kernel) ⟨by decide, by decide⟩) hK hN hP (q0 := 0) rfl rfl rfl hl.1 rfl (Nat.le_of_ble_eq_true rfl) ⟨by decide, by decide⟩ dX5_resize_7 ?_
  refine rd_ifne_b (tgt := 19) hx hb dX5_resize_10 (by decide) (fun c_10 => ?_) (fun c_10 => ?_)
  · obtain ⟨i, hi, ei⟩ := (gHas_iff hn8).mp c_10
    rw [ei] at hl
    have hl : lv_has ls 4 [(0, .ref om), (1, .int (nI i)), (2, .int y), (3, .int z)] := hl
    refine lv_iload_n hx hb dX5_resize_19 rfl (lv_at hl 2 rfl) ?_
    refine lv_iconst (v := 1) hx hb dX5_resize_20 (by decide) ?_
    refine lv_bipush (v := 20) hx hb dX5_resize_21 (by decide) ?_
    refine rd_callS (As := [.int y, .int 1, .int 20]) (rest := []) ⟨hx, hb, hml, hown, hts⟩ (c_X5_in l D y 1 20) (va_cwS 3 hts gX5_resize_X5_in rfl rfl rfl (by decide +kernel) ⟨by decide, by decide⟩) hK hN hP rfl hl.1 rfl (Nat.le_of_ble_eq_true rfl) ⟨by decide, by decide⟩ dX5_resize_23 ?_
    refine rd_ifeq_b (tgt := 39) hx hb dX5_resize_26 (by decide) (fun c_26 => ?_) (fun c_26 => ?_)
    · refine lv_aload_n hx hb dX5_resize_39 rfl (lv_at hl 0 rfl) ?_
      refine lv_iconst (v := 2) hx hb dX5_resize_40 (by decide) ?_
      refine wr_callV (As := [.int 2]) (rest := []) ⟨hx, hb, hml, hown, hts⟩ (c_X5_fails l D 2) (cwV 1 hts gX5_resize_X5_fails rfl rfl rfl (by decide +kernel) ⟨by decide, by decide⟩) hK hN hZ hP hD hS [0, 1, 2, 3, 4, 5, 6, 7] [0] rfl (by decide) rfl (q0 := 0) rfl rfl rfl hl.1 rfl (Nat.le_of_ble_eq_true rfl) ⟨by decide, by decide⟩ dX5_resize_41 (fun v9 w9 H locs hp9 hP hD hS => ?_)
      obtain ⟨rfl, rfl⟩ := hp9
      have hP : va_P D vwCl (MdW om xS xV xB xT xA xP xR cI 2 mS mSv (nI q) mBf kLn mTl mAl mPl kBs kLf kAt kWl mRd kRm hsh) H := hP
      have hD : va_D (wr_in (MdW om xS xV xB xT xA xP xR cI thr mS mSv (nI q) mBf kLn mTl mAl mPl kBs kLf kAt kWl mRd kRm hsh)) (MdW om xS xV xB xT xA xP xR cI 2 mS mSv (nI q) mBf kLn mTl mAl mPl kBs kLf kAt kWl mRd kRm hsh) := hD
      refine W.eq (g2 := F0 m 44 ls [.int 0]) rfl ?_
      exact wr_iret hx hb hr hlocks hP hS rfl dX5_resize_44 (by exact Or.inr ⟨i, hi, ei, Or.inl ⟨by simp [c_26], rfl, rfl⟩⟩)
    · refine lv_iload_n hx hb dX5_resize_29 rfl (lv_at hl 3 rfl) ?_
      refine lv_iconst (v := 1) hx hb dX5_resize_30 (by decide) ?_
      refine lv_bipush (v := 9) hx hb dX5_resize_31 (by decide) ?_
      refine rd_callS (As := [.int z, .int 1, .int 9]) (rest := []) ⟨hx, hb, hml, hown, hts⟩ (c_X5_in l D z 1 9) (va_cwS 3 hts gX5_resize_X5_in rfl rfl rfl (by decide +kernel) ⟨by decide, by decide⟩) hK hN hP rfl hl.1 rfl (Nat.le_of_ble_eq_true rfl) ⟨by decide, by decide⟩ dX5_resize_33 ?_
      refine rd_ifne_b (tgt := 45) hx hb dX5_resize_36 (by decide) (fun c_36 => ?_) (fun c_36 => ?_)
      · refine lv_aload_n hx hb dX5_resize_45 rfl (lv_at hl 0 rfl) ?_
        refine wr_callV (As := []) (rest := []) ⟨hx, hb, hml, hown, hts⟩ (c_X5_saves l D (q := q) hq6) (cwV 0 hts gX5_resize_X5_saves rfl rfl rfl (by decide +kernel) ⟨by decide, by decide⟩) hK hN hZ hP hD hS [0, 1, 2, 3, 4, 5, 6, 7] [0] rfl (by decide) rfl (q0 := 0) rfl rfl rfl hl.1 rfl (Nat.le_of_ble_eq_true rfl) ⟨by decide, by decide⟩ dX5_resize_46 (fun v9 w9 H locs hp9 hP hD hS => ?_)
        obtain ⟨rfl, rfl⟩ := hp9
        have hP : va_P D vwCl (MdW om xS xV xB xT xA xP xR cI 0 mS (svF q mSv mS) (nI ((if q < 6 then q else 5) + 1)) mBf kLn mTl mAl mPl kBs kLf kAt kWl mRd kRm hsh) H := hP
        have hD : va_D (wr_in (MdW om xS xV xB xT xA xP xR cI thr mS mSv (nI q) mBf kLn mTl mAl mPl kBs kLf kAt kWl mRd kRm hsh)) (MdW om xS xV xB xT xA xP xR cI 0 mS (svF q mSv mS) (nI ((if q < 6 then q else 5) + 1)) mBf kLn mTl mAl mPl kBs kLf kAt kWl mRd kRm hsh) := hD
        refine W.eq (g2 := F0 m 49 ls []) rfl ?_
        refine lv_aload_n hx hb dX5_resize_49 rfl (lv_at hl 0 rfl) ?_
        refine va_get (D := D) (ci := 5) (v := .ref xS) (C := RX5) (T := TX5) (N := 16) hx hb hts hinX5 hown hK hP 0 rfl rfl 1 (by decide) hw7 (fun _ h9 => h9) rfl dX5_resize_50 ?_
        refine lv_iconst (v := 1) hx hb dX5_resize_53 (by decide) ?_
        refine lv_bipush (v := 6) hx hb dX5_resize_54 (by decide) ?_
        refine lv_iload_n hx hb dX5_resize_56 rfl (lv_at hl 1 rfl) ?_
        refine lv_imul hx hb dX5_resize_57 ?_
        refine lv_asi (y := nI (6 * i)) (pk_mul 6 i) ?_
        refine lv_iadd hx hb dX5_resize_58 ?_
        refine lv_asi (y := nI (1 + (6 * i))) (nI_add 1 (6 * i)) ?_
        refine lv_iconst (v := 2) hx hb dX5_resize_59 (by decide) ?_
        refine lv_iadd hx hb dX5_resize_60 ?_
        refine lv_asi (y := nI ((1 + (6 * i)) + 2)) (nI_add (1 + (6 * i)) 2) ?_
        refine lv_iload_n hx hb dX5_resize_61 rfl (lv_at hl 2 rfl) ?_
        refine wr_ast (q0 := 1) (t0 := 0) (j := (1 + (6 * i)) + 2) hx hb hK hP hD hS rfl rfl (rfl) (by omega) (by decide) dX5_resize_62 (fun H locs hP hD hS => ?_)
        obtain ⟨mS_62, emS_62⟩ : ∃ zz9 : Nat → Int32, zz9 = upd mS ((1 + (6 * i)) + 2) y := ⟨_, rfl⟩
        rw [← emS_62] at hP hD
        have hP : va_P D vwCl (MdW om xS xV xB xT xA xP xR cI 0 mS_62 (svF q mSv mS) (nI ((if q < 6 then q else 5) + 1)) mBf kLn mTl mAl mPl kBs kLf kAt kWl mRd kRm hsh) H := hP
        have hD : va_D (wr_in (MdW om xS xV xB xT xA xP xR cI thr mS mSv (nI q) mBf kLn mTl mAl mPl kBs kLf kAt kWl mRd kRm hsh)) (MdW om xS xV xB xT xA xP xR cI 0 mS_62 (svF q mSv mS) (nI ((if q < 6 then q else 5) + 1)) mBf kLn mTl mAl mPl kBs kLf kAt kWl mRd kRm hsh) := hD
        refine lv_aload_n hx hb dX5_resize_63 rfl (lv_at hl 0 rfl) ?_
        refine va_get (D := D) (ci := 5) (v := .ref xS) (C := RX5) (T := TX5) (N := 16) hx hb hts hinX5 hown hK hP 0 rfl rfl 1 (by decide) hw7 (fun _ h9 => h9) rfl dX5_resize_64 ?_
        refine lv_iconst (v := 1) hx hb dX5_resize_67 (by decide) ?_
        refine lv_bipush (v := 6) hx hb dX5_resize_68 (by decide) ?_
        refine lv_iload_n hx hb dX5_resize_70 rfl (lv_at hl 1 rfl) ?_
        refine lv_imul hx hb dX5_resize_71 ?_
        refine lv_asi (y := nI (6 * i)) (pk_mul 6 i) ?_
        refine lv_iadd hx hb dX5_resize_72 ?_
        refine lv_asi (y := nI (1 + (6 * i))) (nI_add 1 (6 * i)) ?_
        refine lv_iconst (v := 3) hx hb dX5_resize_73 (by decide) ?_
        refine lv_iadd hx hb dX5_resize_74 ?_
        refine lv_asi (y := nI ((1 + (6 * i)) + 3)) (nI_add (1 + (6 * i)) 3) ?_
        refine lv_iload_n hx hb dX5_resize_75 rfl (lv_at hl 3 rfl) ?_
        refine wr_ast (q0 := 1) (t0 := 0) (j := (1 + (6 * i)) + 3) hx hb hK hP hD hS rfl rfl (rfl) (by omega) (by decide) dX5_resize_76 (fun H locs hP hD hS => ?_)
        obtain ⟨mS_76, emS_76⟩ : ∃ zz9 : Nat → Int32, zz9 = upd mS_62 ((1 + (6 * i)) + 3) z := ⟨_, rfl⟩
        rw [← emS_76] at hP hD
        have hP : va_P D vwCl (MdW om xS xV xB xT xA xP xR cI 0 mS_76 (svF q mSv mS) (nI ((if q < 6 then q else 5) + 1)) mBf kLn mTl mAl mPl kBs kLf kAt kWl mRd kRm hsh) H := hP
        have hD : va_D (wr_in (MdW om xS xV xB xT xA xP xR cI thr mS mSv (nI q) mBf kLn mTl mAl mPl kBs kLf kAt kWl mRd kRm hsh)) (MdW om xS xV xB xT xA xP xR cI 0 mS_76 (svF q mSv mS) (nI ((if q < 6 then q else 5) + 1)) mBf kLn mTl mAl mPl kBs kLf kAt kWl mRd kRm hsh) := hD
        refine lv_aload_n hx hb dX5_resize_77 rfl (lv_at hl 0 rfl) ?_
        refine lv_iload_n hx hb dX5_resize_78 rfl (lv_at hl 1 rfl) ?_
        refine lv_iconst (v := (-1)) hx hb dX5_resize_79 (by decide) ?_
        refine wr_callV (As := [.int (nI i), .int (-1)]) (rest := []) ⟨hx, hb, hml, hown, hts⟩ (c_X5_stands l D (i := i) (by omega) (-1)) (cwV 2 hts gX5_resize_X5_stands rfl rfl rfl (by decide +kernel) ⟨by decide, by decide⟩) hK hN hZ hP hD hS [0, 1, 2, 3, 4, 5, 6, 7] [0] rfl (by decide) rfl (q0 := 0) rfl rfl rfl hl.1 rfl (Nat.le_of_ble_eq_true rfl) ⟨by decide, by decide⟩ dX5_resize_80 (fun v9 w9 H locs hp9 hP hD hS => ?_)
        obtain ⟨rfl, rfl⟩ := hp9
        obtain ⟨mS_80, emS_80⟩ : ∃ zz9 : Nat → Int32, zz9 = upd mS_76 (1 + 6 * i + 5) ((-1) + 1) := ⟨_, rfl⟩
        rw [← emS_80] at hP hD
        have hP : va_P D vwCl (MdW om xS xV xB xT xA xP xR cI 0 mS_80 (svF q mSv mS) (nI ((if q < 6 then q else 5) + 1)) mBf kLn mTl mAl mPl kBs kLf kAt kWl mRd kRm hsh) H := hP
        have hD : va_D (wr_in (MdW om xS xV xB xT xA xP xR cI thr mS mSv (nI q) mBf kLn mTl mAl mPl kBs kLf kAt kWl mRd kRm hsh)) (MdW om xS xV xB xT xA xP xR cI 0 mS_80 (svF q mSv mS) (nI ((if q < 6 then q else 5) + 1)) mBf kLn mTl mAl mPl kBs kLf kAt kWl mRd kRm hsh) := hD
        refine W.eq (g2 := F0 m 83 ls []) rfl ?_
        have hQ3 := mdS_set5 (v := -1) hi (mdS_set (v := z) hi (k := 3) (by decide) (mdS_set (v := y) hi (k := 2) (by decide) hQ emS_62) emS_76) emS_80
        have hbk3 := bd_ok_resize hi hbk c_26 c_36
        refine lv_aload_n hx hb dX5_resize_83 rfl (lv_at hl 0 rfl) ?_
        refine lv_iload_n hx hb dX5_resize_84 rfl (lv_at hl 1 rfl) ?_
        have hmd : md_in (MdW om xS xV xB xT xA xP xR cI 0 mS_80 (svF q mSv mS) (nI ((if q < 6 then q else 5) + 1)) mBf kLn mTl mAl mPl kBs kLf kAt kWl mRd kRm hsh) [(cI, .int)] om n (gSet (gSet (gSet P i 2 y) i 3 z) i 5 (-1)) := ⟨0, 1, 0, xS, cI, mS_80, _, rfl, rfl, rfl, rfl, hn8, hQ3.1, hQ3.2, hbk3⟩
        refine rd_callV (As := [.int (nI i)]) (rest := []) ⟨hx, hb, hml, hown, hts⟩ (c_X5_openOf l D hmd hi) (cwV 1 hts gX5_resize_X5_openOf rfl rfl rfl (by decide +kernel) ⟨by decide, by decide⟩) hK hN hP (q0 := 0) rfl rfl rfl hl.1 rfl (Nat.le_of_ble_eq_true rfl) ⟨by decide, by decide⟩ dX5_resize_85 ?_
        refine rd_callS (As := [.int (gMk n (gSet (gSet (gSet P i 2 y) i 3 z) i 5 (-1)) i)]) (rest := []) ⟨hx, hb, hml, hown, hts⟩ (c_X5_ones l D (gMk n (gSet (gSet (gSet P i 2 y) i 3 z) i 5 (-1)) i)) (va_cwS 1 hts gX5_resize_X5_ones rfl rfl rfl (by decide +kernel) ⟨by decide, by decide⟩) hK hN hP rfl hl.1 rfl (Nat.le_of_ble_eq_true rfl) ⟨by decide, by decide⟩ dX5_resize_88 ?_
        exact wr_iret hx hb hr hlocks hP hS rfl dX5_resize_91 (by exact Or.inr ⟨i, hi, ei, Or.inr ⟨by simp [c_26, c_36], rfl, _, hQ3, rfl⟩⟩)
      · refine lv_aload_n hx hb dX5_resize_39 rfl (lv_at hl 0 rfl) ?_
        refine lv_iconst (v := 2) hx hb dX5_resize_40 (by decide) ?_
        refine wr_callV (As := [.int 2]) (rest := []) ⟨hx, hb, hml, hown, hts⟩ (c_X5_fails l D 2) (cwV 1 hts gX5_resize_X5_fails rfl rfl rfl (by decide +kernel) ⟨by decide, by decide⟩) hK hN hZ hP hD hS [0, 1, 2, 3, 4, 5, 6, 7] [0] rfl (by decide) rfl (q0 := 0) rfl rfl rfl hl.1 rfl (Nat.le_of_ble_eq_true rfl) ⟨by decide, by decide⟩ dX5_resize_41 (fun v9 w9 H locs hp9 hP hD hS => ?_)
        obtain ⟨rfl, rfl⟩ := hp9
        have hP : va_P D vwCl (MdW om xS xV xB xT xA xP xR cI 2 mS mSv (nI q) mBf kLn mTl mAl mPl kBs kLf kAt kWl mRd kRm hsh) H := hP
        have hD : va_D (wr_in (MdW om xS xV xB xT xA xP xR cI thr mS mSv (nI q) mBf kLn mTl mAl mPl kBs kLf kAt kWl mRd kRm hsh)) (MdW om xS xV xB xT xA xP xR cI 2 mS mSv (nI q) mBf kLn mTl mAl mPl kBs kLf kAt kWl mRd kRm hsh) := hD
        refine W.eq (g2 := F0 m 44 ls [.int 0]) rfl ?_
        exact wr_iret hx hb hr hlocks hP hS rfl dX5_resize_44 (by exact Or.inr ⟨i, hi, ei, Or.inl ⟨by simp [c_26, c_36], rfl, rfl⟩⟩)
  · refine lv_aload_n hx hb dX5_resize_13 rfl (lv_at hl 0 rfl) ?_
    refine lv_iconst (v := 1) hx hb dX5_resize_14 (by decide) ?_
    refine wr_callV (As := [.int 1]) (rest := []) ⟨hx, hb, hml, hown, hts⟩ (c_X5_fails l D 1) (cwV 1 hts gX5_resize_X5_fails rfl rfl rfl (by decide +kernel) ⟨by decide, by decide⟩) hK hN hZ hP hD hS [0, 1, 2, 3, 4, 5, 6, 7] [0] rfl (by decide) rfl (q0 := 0) rfl rfl rfl hl.1 rfl (Nat.le_of_ble_eq_true rfl) ⟨by decide, by decide⟩ dX5_resize_15 (fun v9 w9 H locs hp9 hP hD hS => ?_)
    obtain ⟨rfl, rfl⟩ := hp9
    have hP : va_P D vwCl (MdW om xS xV xB xT xA xP xR cI 1 mS mSv (nI q) mBf kLn mTl mAl mPl kBs kLf kAt kWl mRd kRm hsh) H := hP
    have hD : va_D (wr_in (MdW om xS xV xB xT xA xP xR cI thr mS mSv (nI q) mBf kLn mTl mAl mPl kBs kLf kAt kWl mRd kRm hsh)) (MdW om xS xV xB xT xA xP xR cI 1 mS mSv (nI q) mBf kLn mTl mAl mPl kBs kLf kAt kWl mRd kRm hsh) := hD
    refine W.eq (g2 := F0 m 18 ls [.int 0]) rfl ?_
    exact wr_iret hx hb hr hlocks hP hS rfl dX5_resize_18 (by exact Or.inl ⟨c_10, rfl, rfl⟩)
set_option maxHeartbeats 4000000 in
set_option maxRecDepth 100000 in
theorem c_X5_drop (l : Launch) (D : va_G) {om xS xV xB xT xA xP xR : Nat} {cI : ClassId} {thr kLn kBs kLf kAt kWl kRm : Int32} {hsh : Int64} {mS mSv mBf mTl mAl mPl mRd : Nat → Int32} {n : Nat} {P : Nat → Nat → Int32} {q : Nat} (hq6 : q ≤ 6) (hn8 : n ≤ 8) (hQ : mdS n P mS) (hbk : bd_ok n P) (x : Int32) : wr_M l yX5_drop wsX5_drop ({ frames := 2, cells := 0, slots := 0, locals := 43 } : Room) D (MdW om xS xV xB xT xA xP xR cI thr mS mSv (nI q) mBf kLn mTl mAl mPl kBs kLf kAt kWl mRd kRm hsh) [(cI, .int)] [.ref om, .int x] (fun v w9 => (gHas n x = false ∧ v = some (.int 0) ∧ w9 = MdW om xS xV xB xT xA xP xR cI 1 mS mSv (nI q) mBf kLn mTl mAl mPl kBs kLf kAt kWl mRd kRm hsh) ∨ (∃ i, i < n ∧ x = nI i ∧ v = some (.int (P i 5)) ∧ ∃ S9 : Nat → Int32, mdS n (gSet P i 5 (-1)) S9 ∧ w9 = MdW om xS xV xB xT xA xP xR cI 0 S9 (svF q mSv mS) (nI ((if q < 6 then q else 5) + 1)) mBf kLn mTl mAl mPl kBs kLf kAt kWl mRd kRm hsh)) := by
  refine wr_of (cc := cX5_drop) (maxL := 3) (ret := some .int) (by decide) rfl (Nat.le_of_ble_eq_true rfl) ?_
  intro p e s m below meth c hx hb hr hml hts hown hlocks hP hK hN hZ hD hS ls hl
  have hown : s.vm.findClass RX5 = some m.cls := hown
  have hl : lv_has ls 3 [(0, .ref om), (1, .int x)] := hl
  have hinX5 : ∀ w ∈ u_ws RX5 TX5 16, w ∈ wsX5_drop := by decide +kernel
  have hw31 := hts (.fieldLink RX5 31 "CornerLabelsModel" "thrown" "I") (by decide +kernel)
  suffices body : ∀ (H : Heap) (locs : List Loc), va_P D vwCl (MdW om xS xV xB xT xA xP xR cI thr mS mSv (nI q) mBf kLn mTl mAl mPl kBs kLf kAt kWl mRd kRm hsh) H → va_D (wr_in (MdW om xS xV xB xT xA xP xR cI thr mS mSv (nI q) mBf kLn mTl mAl mPl kBs kLf kAt kWl mRd kRm hsh)) (MdW om xS xV xB xT xA xP xR cI thr mS mSv (nI q) mBf kLn mTl mAl mPl kBs kLf kAt kWl mRd kRm hsh) → va_S (wr_in (MdW om xS xV xB xT xA xP xR cI thr mS mSv (nI q) mBf kLn mTl mAl mPl kBs kLf kAt kWl mRd kRm hsh)) s.heap H locs → wr_W p l e wsX5_drop ({ frames := 2, cells := 0, slots := 0, locals := 43 } : Room) s m [.ref om, .int x] below meth c D (MdW om xS xV xB xT xA xP xR cI thr mS mSv (nI q) mBf kLn mTl mAl mPl kBs kLf kAt kWl mRd kRm hsh) (fun v w9 => (gHas n x = false ∧ v = some (.int 0) ∧ w9 = MdW om xS xV xB xT xA xP xR cI 1 mS mSv (nI q) mBf kLn mTl mAl mPl kBs kLf kAt kWl mRd kRm hsh) ∨ (∃ i, i < n ∧ x = nI i ∧ v = some (.int (P i 5)) ∧ ∃ S9 : Nat → Int32, mdS n (gSet P i 5 (-1)) S9 ∧ w9 = MdW om xS xV xB xT xA xP xR cI 0 S9 (svF q mSv mS) (nI ((if q < 6 then q else 5) + 1)) mBf kLn mTl mAl mPl kBs kLf kAt kWl mRd kRm hsh)) H locs (F0 m 0 ls []) from body _ _ hP hD hS
  clear hP hD hS
  intro H locs hP hD hS
  refine lv_aload_n hx hb dX5_drop_0 rfl (lv_at hl 0 rfl) ?_
  refine lv_iconst (v := 0) hx hb dX5_drop_1 (by decide) ?_
  refine va_put (D := D) (ci := 5) (v := .int 0) (ty := .int) (C := RX5) (T := TX5) (N := 16) hx hb hts hinX5 tyX5 tyX5_ok nmX5 hown hK hP hD hS 0 rfl rfl 0 (by decide) hw31 (fun _ h9 => h9) rfl (by decide +kernel) rfl rfl (Nat.le_of_ble_eq_true rfl) dX5_drop_2 (fun H locs hP hD hS => ?_)
  have hP : va_P D vwCl (MdW om xS xV xB xT xA xP xR cI 0 mS mSv (nI q) mBf kLn mTl mAl mPl kBs kLf kAt kWl mRd kRm hsh) H := hP
  have hD : va_D (wr_in (MdW om xS xV xB xT xA xP xR cI thr mS mSv (nI q) mBf kLn mTl mAl mPl kBs kLf kAt kWl mRd kRm hsh)) (MdW om xS xV xB xT xA xP xR cI 0 mS mSv (nI q) mBf kLn mTl mAl mPl kBs kLf kAt kWl mRd kRm hsh) := hD
  refine lv_aload_n hx hb dX5_drop_5 rfl (lv_at hl 0 rfl) ?_
  refine lv_iload_n hx hb dX5_drop_6 rfl (lv_at hl 1 rfl) ?_
  have hmd : md_in (MdW om xS xV xB xT xA xP xR cI 0 mS mSv (nI q) mBf kLn mTl mAl mPl kBs kLf kAt kWl mRd kRm hsh) [(cI, .int)] om n P := ⟨0, 1, 0, xS, cI, mS, _, rfl, rfl, rfl, rfl, hn8, hQ.1, hQ.2, hbk⟩
  refine rd_callV (As := [.int x]) (rest := []) ⟨hx, hb, hml, hown, hts⟩ (c_X5_isPoint l D hmd x) (cwV 1 hts gX5_drop_X5_isPoint rfl rfl rfl (by decide +kernel) ⟨by decide, by decide⟩) hK hN hP (q0 := 0) rfl rfl rfl hl.1 rfl (Nat.le_of_ble_eq_true rfl) ⟨by decide, by decide⟩ dX5_drop_7 ?_
  refine rd_ifne_b (tgt := 19) hx hb dX5_drop_10 (by decide) (fun c_10 => ?_) (fun c_10 => ?_)
  · obtain ⟨i, hi, ei⟩ := (gHas_iff hn8).mp c_10
    rw [ei] at hl
    have hl : lv_has ls 3 [(0, .ref om), (1, .int (nI i))] := hl
    refine lv_aload_n hx hb dX5_drop_19 rfl (lv_at hl 0 rfl) ?_
    refine wr_callV (As := []) (rest := []) ⟨hx, hb, hml, hown, hts⟩ (c_X5_saves l D (q := q) hq6) (cwV 0 hts gX5_drop_X5_saves rfl rfl rfl (by decide +kernel) ⟨by decide, by decide⟩) hK hN hZ hP hD hS [0, 1, 2, 3, 4, 5, 6, 7] [0] rfl (by decide) rfl (q0 := 0) rfl rfl rfl hl.1 rfl (Nat.le_of_ble_eq_true rfl) ⟨by decide, by decide⟩ dX5_drop_20 (fun v9 w9 H locs hp9 hP hD hS => ?_)
    obtain ⟨rfl, rfl⟩ := hp9
    have hP : va_P D vwCl (MdW om xS xV xB xT xA xP xR cI 0 mS (svF q mSv mS) (nI ((if q < 6 then q else 5) + 1)) mBf kLn mTl mAl mPl kBs kLf kAt kWl mRd kRm hsh) H := hP
    have hD : va_D (wr_in (MdW om xS xV xB xT xA xP xR cI thr mS mSv (nI q) mBf kLn mTl mAl mPl kBs kLf kAt kWl mRd kRm hsh)) (MdW om xS xV xB xT xA xP xR cI 0 mS (svF q mSv mS) (nI ((if q < 6 then q else 5) + 1)) mBf kLn mTl mAl mPl kBs kLf kAt kWl mRd kRm hsh) := hD
    refine W.eq (g2 := F0 m 23 ls []) rfl ?_
    refine lv_aload_n hx hb dX5_drop_23 rfl (lv_at hl 0 rfl) ?_
    refine lv_iload_n hx hb dX5_drop_24 rfl (lv_at hl 1 rfl) ?_
    have hmd : md_in (MdW om xS xV xB xT xA xP xR cI 0 mS (svF q mSv mS) (nI ((if q < 6 then q else 5) + 1)) mBf kLn mTl mAl mPl kBs kLf kAt kWl mRd kRm hsh) [(cI, .int)] om n P := ⟨0, 1, 0, xS, cI, mS, _, rfl, rfl, rfl, rfl, hn8, hQ.1, hQ.2, hbk⟩
    refine rd_callV (As := [.int (nI i)]) (rest := []) ⟨hx, hb, hml, hown, hts⟩ (c_X5_cornerOf l D hmd hi) (cwV 1 hts gX5_drop_X5_cornerOf rfl rfl rfl (by decide +kernel) ⟨by decide, by decide⟩) hK hN hP (q0 := 0) rfl rfl rfl hl.1 rfl (Nat.le_of_ble_eq_true rfl) ⟨by decide, by decide⟩ dX5_drop_25 ?_
    refine lv_istore_n (lv' := [(2, .int (P i 5)), (0, .ref om), (1, .int (nI i))]) hx hb dX5_drop_28 rfl hl (by decide) rfl (fun ls hl => ?_)
    refine lv_aload_n hx hb dX5_drop_29 rfl (lv_at hl 1 rfl) ?_
    refine lv_iload_n hx hb dX5_drop_30 rfl (lv_at hl 2 rfl) ?_
    refine lv_iconst (v := (-1)) hx hb dX5_drop_31 (by decide) ?_
    refine wr_callV (As := [.int (nI i), .int (-1)]) (rest := []) ⟨hx, hb, hml, hown, hts⟩ (c_X5_stands l D (i := i) (by omega) (-1)) (cwV 2 hts gX5_drop_X5_stands rfl rfl rfl (by decide +kernel) ⟨by decide, by decide⟩) hK hN hZ hP hD hS [0, 1, 2, 3, 4, 5, 6, 7] [0] rfl (by decide) rfl (q0 := 0) rfl rfl rfl hl.1 rfl (Nat.le_of_ble_eq_true rfl) ⟨by decide, by decide⟩ dX5_drop_32 (fun v9 w9 H locs hp9 hP hD hS => ?_)
    obtain ⟨rfl, rfl⟩ := hp9
    obtain ⟨mS_32, emS_32⟩ : ∃ zz9 : Nat → Int32, zz9 = upd mS (1 + 6 * i + 5) ((-1) + 1) := ⟨_, rfl⟩
    rw [← emS_32] at hP hD
    have hP : va_P D vwCl (MdW om xS xV xB xT xA xP xR cI 0 mS_32 (svF q mSv mS) (nI ((if q < 6 then q else 5) + 1)) mBf kLn mTl mAl mPl kBs kLf kAt kWl mRd kRm hsh) H := hP
    have hD : va_D (wr_in (MdW om xS xV xB xT xA xP xR cI thr mS mSv (nI q) mBf kLn mTl mAl mPl kBs kLf kAt kWl mRd kRm hsh)) (MdW om xS xV xB xT xA xP xR cI 0 mS_32 (svF q mSv mS) (nI ((if q < 6 then q else 5) + 1)) mBf kLn mTl mAl mPl kBs kLf kAt kWl mRd kRm hsh) := hD
    refine W.eq (g2 := F0 m 35 ls []) rfl ?_
    refine lv_iload_n hx hb dX5_drop_35 rfl (lv_at hl 0 rfl) ?_
    exact wr_iret hx hb hr hlocks hP hS rfl dX5_drop_36 (by exact Or.inr ⟨i, hi, ei, rfl, _, mdS_set5 hi hQ emS_32, rfl⟩)
  · refine lv_aload_n hx hb dX5_drop_13 rfl (lv_at hl 0 rfl) ?_
    refine lv_iconst (v := 1) hx hb dX5_drop_14 (by decide) ?_
    refine wr_callV (As := [.int 1]) (rest := []) ⟨hx, hb, hml, hown, hts⟩ (c_X5_fails l D 1) (cwV 1 hts gX5_drop_X5_fails rfl rfl rfl (by decide +kernel) ⟨by decide, by decide⟩) hK hN hZ hP hD hS [0, 1, 2, 3, 4, 5, 6, 7] [0] rfl (by decide) rfl (q0 := 0) rfl rfl rfl hl.1 rfl (Nat.le_of_ble_eq_true rfl) ⟨by decide, by decide⟩ dX5_drop_15 (fun v9 w9 H locs hp9 hP hD hS => ?_)
    obtain ⟨rfl, rfl⟩ := hp9
    have hP : va_P D vwCl (MdW om xS xV xB xT xA xP xR cI 1 mS mSv (nI q) mBf kLn mTl mAl mPl kBs kLf kAt kWl mRd kRm hsh) H := hP
    have hD : va_D (wr_in (MdW om xS xV xB xT xA xP xR cI thr mS mSv (nI q) mBf kLn mTl mAl mPl kBs kLf kAt kWl mRd kRm hsh)) (MdW om xS xV xB xT xA xP xR cI 1 mS mSv (nI q) mBf kLn mTl mAl mPl kBs kLf kAt kWl mRd kRm hsh) := hD
    refine W.eq (g2 := F0 m 18 ls [.int 0]) rfl ?_
    exact wr_iret hx hb hr hlocks hP hS rfl dX5_drop_18 (by exact Or.inl ⟨c_10, rfl, rfl⟩)
set_option maxHeartbeats 4000000 in
set_option maxRecDepth 100000 in
theorem c_X5_place (l : Launch) (D : va_G) {om xS xV xB xT xA xP xR : Nat} {cI : ClassId} {thr kLn kBs kLf kAt kWl kRm : Int32} {hsh : Int64} {mS mSv mBf mTl mAl mPl mRd : Nat → Int32} {n : Nat} {P : Nat → Nat → Int32} {q : Nat} (hq6 : q ≤ 6) (hn8 : n ≤ 8) (hQ : mdS n P mS) (hbk : bd_ok n P) (x y : Int32) : wr_M l yX5_place wsX5_place ({ frames := 6, cells := 0, slots := 0, locals := 138 } : Room) D (MdW om xS xV xB xT xA xP xR cI thr mS mSv (nI q) mBf kLn mTl mAl mPl kBs kLf kAt kWl mRd kRm hsh) [(cI, .int)] [.ref om, .int x, .int y] (fun v w9 => (gHas n x = false ∧ v = some (.int 0) ∧ w9 = MdW om xS xV xB xT xA xP xR cI 1 mS mSv (nI q) mBf kLn mTl mAl mPl kBs kLf kAt kWl mRd kRm hsh) ∨ (∃ i, i < n ∧ x = nI i ∧ ((mIn y 0 3 = false ∧ v = some (.int 0) ∧ w9 = MdW om xS xV xB xT xA xP xR cI 2 mS mSv (nI q) mBf kLn mTl mAl mPl kBs kLf kAt kWl mRd kRm hsh) ∨ (mIn y 0 3 = true ∧ (((gOp n P i y && !gCl n P i y) = false ∧ v = some (.int 0) ∧ w9 = MdW om xS xV xB xT xA xP xR cI 3 mS mSv (nI q) mBf kLn mTl mAl mPl kBs kLf kAt kWl mRd kRm hsh) ∨ ((gOp n P i y && !gCl n P i y) = true ∧ v = some (.int (P i 5)) ∧ ∃ S9 : Nat → Int32, mdS n (gSet P i 5 y) S9 ∧ w9 = MdW om xS xV xB xT xA xP xR cI 0 S9 (svF q mSv mS) (nI ((if q < 6 then q else 5) + 1)) mBf kLn mTl mAl mPl kBs kLf kAt kWl mRd kRm hsh)))))) := by
  refine wr_of (cc := cX5_place) (maxL := 4) (ret := some .int) (by decide) rfl (Nat.le_of_ble_eq_true rfl) ?_
  intro p e s m below meth c hx hb hr hml hts hown hlocks hP hK hN hZ hD hS ls hl
  have hown : s.vm.findClass RX5 = some m.cls := hown
  have hl : lv_has ls 4 [(0, .ref om), (1, .int x), (2, .int y)] := hl
  have hinX5 : ∀ w ∈ u_ws RX5 TX5 16, w ∈ wsX5_place := by decide +kernel
  have hw31 := hts (.fieldLink RX5 31 "CornerLabelsModel" "thrown" "I") (by decide +kernel)
  suffices body : ∀ (H : Heap) (locs : List Loc), va_P D vwCl (MdW om xS xV xB xT xA xP xR cI thr mS mSv (nI q) mBf kLn mTl mAl mPl kBs kLf kAt kWl mRd kRm hsh) H → va_D (wr_in (MdW om xS xV xB xT xA xP xR cI thr mS mSv (nI q) mBf kLn mTl mAl mPl kBs kLf kAt kWl mRd kRm hsh)) (MdW om xS xV xB xT xA xP xR cI thr mS mSv (nI q) mBf kLn mTl mAl mPl kBs kLf kAt kWl mRd kRm hsh) → va_S (wr_in (MdW om xS xV xB xT xA xP xR cI thr mS mSv (nI q) mBf kLn mTl mAl mPl kBs kLf kAt kWl mRd kRm hsh)) s.heap H locs → wr_W p l e wsX5_place ({ frames := 6, cells := 0, slots := 0, locals := 138 } : Room) s m [.ref om, .int x, .int y] below meth c D (MdW om xS xV xB xT xA xP xR cI thr mS mSv (nI q) mBf kLn mTl mAl mPl kBs kLf kAt kWl mRd kRm hsh) (fun v w9 => (gHas n x = false ∧ v = some (.int 0) ∧ w9 = MdW om xS xV xB xT xA xP xR cI 1 mS mSv (nI q) mBf kLn mTl mAl mPl kBs kLf kAt kWl mRd kRm hsh) ∨ (∃ i, i < n ∧ x = nI i ∧ ((mIn y 0 3 = false ∧ v = some (.int 0) ∧ w9 = MdW om xS xV xB xT xA xP xR cI 2 mS mSv (nI q) mBf kLn mTl mAl mPl kBs kLf kAt kWl mRd kRm hsh) ∨ (mIn y 0 3 = true ∧ (((gOp n P i y && !gCl n P i y) = false ∧ v = some (.int 0) ∧ w9 = MdW om xS xV xB xT xA xP xR cI 3 mS mSv (nI q) mBf kLn mTl mAl mPl kBs kLf kAt kWl mRd kRm hsh) ∨ ((gOp n P i y && !gCl n P i y) = true ∧ v = some (.int (P i 5)) ∧ ∃ S9 : Nat → Int32, mdS n (gSet P i 5 y) S9 ∧ w9 = MdW om xS xV xB xT xA xP xR cI 0 S9 (svF q mSv mS) (nI ((if q < 6 then q else 5) + 1)) mBf kLn mTl mAl mPl kBs kLf kAt kWl mRd kRm hsh)))))) H locs (F0 m 0 ls []) from body _ _ hP hD hS
  clear hP hD hS
  intro H locs hP hD hS
  refine lv_aload_n hx hb dX5_place_0 rfl (lv_at hl 0 rfl) ?_
  refine lv_iconst (v := 0) hx hb dX5_place_1 (by decide) ?_
  refine va_put (D := D) (ci := 5) (v := .int 0) (ty := .int) (C := RX5) (T := TX5) (N := 16) hx hb hts hinX5 tyX5 tyX5_ok nmX5 hown hK hP hD hS 0 rfl rfl 0 (by decide) hw31 (fun _ h9 => h9) rfl (by decide +kernel) rfl rfl (Nat.le_of_ble_eq_true rfl) dX5_place_2 (fun H locs hP hD hS => ?_)
  have hP : va_P D vwCl (MdW om xS xV xB xT xA xP xR cI 0 mS mSv (nI q) mBf kLn mTl mAl mPl kBs kLf kAt kWl mRd kRm hsh) H := hP
  have hD : va_D (wr_in (MdW om xS xV xB xT xA xP xR cI thr mS mSv (nI q) mBf kLn mTl mAl mPl kBs kLf kAt kWl mRd kRm hsh)) (MdW om xS xV xB xT xA xP xR cI 0 mS mSv (nI q) mBf kLn mTl mAl mPl kBs kLf kAt kWl mRd kRm hsh) := hD
  refine lv_aload_n hx hb dX5_place_5 rfl (lv_at hl 0 rfl) ?_
  refine lv_iload_n hx hb dX5_place_6 rfl (lv_at hl 1 rfl) ?_
  have hmd : md_in (MdW om xS xV xB xT xA xP xR cI 0 mS mSv (nI q) mBf kLn mTl mAl mPl kBs kLf kAt kWl mRd kRm hsh) [(cI, .int)] om n P := ⟨0, 1, 0, xS, cI, mS, _, rfl, rfl, rfl, rfl, hn8, hQ.1, hQ.2, hbk⟩
  refine rd_callV (As := [.int x]) (rest := []) ⟨hx, hb, hml, hown, hts⟩ (c_X5_isPoint l D hmd x) (cwV 1 hts gX5_place_X5_isPoint rfl rfl rfl (by decide +kernel) ⟨by decide, by decide⟩) hK hN hP (q0 := 0) rfl rfl rfl hl.1 rfl (Nat.le_of_ble_eq_true rfl) ⟨by decide, by decide⟩ dX5_place_7 ?_
  refine rd_ifne_b (tgt := 19) hx hb dX5_place_10 (by decide) (fun c_10 => ?_) (fun c_10 => ?_)
  · obtain ⟨i, hi, ei⟩ := (gHas_iff hn8).mp c_10
    rw [ei] at hl
    have hl : lv_has ls 4 [(0, .ref om), (1, .int (nI i)), (2, .int y)] := hl
    refine lv_iload_n hx hb dX5_place_19 rfl (lv_at hl 2 rfl) ?_
    refine lv_iconst (v := 0) hx hb dX5_place_20 (by decide) ?_
    refine lv_iconst (v := 3) hx hb dX5_place_21 (by decide) ?_
    refine rd_callS (As := [.int y, .int 0, .int 3]) (rest := []) ⟨hx, hb, hml, hown, hts⟩ (c_X5_in l D y 0 3) (va_cwS 3 hts gX5_place_X5_in rfl rfl rfl (by decide +kernel) ⟨by decide, by decide⟩) hK hN hP rfl hl.1 rfl (Nat.le_of_ble_eq_true rfl) ⟨by decide, by decide⟩ dX5_place_22 ?_
    refine rd_ifne_b (tgt := 34) hx hb dX5_place_25 (by decide) (fun c_25 => ?_) (fun c_25 => ?_)
    · refine lv_aload_n hx hb dX5_place_34 rfl (lv_at hl 0 rfl) ?_
      refine lv_iload_n hx hb dX5_place_35 rfl (lv_at hl 1 rfl) ?_
      refine lv_iload_n hx hb dX5_place_36 rfl (lv_at hl 2 rfl) ?_
      have hmd : md_in (MdW om xS xV xB xT xA xP xR cI 0 mS mSv (nI q) mBf kLn mTl mAl mPl kBs kLf kAt kWl mRd kRm hsh) [(cI, .int)] om n P := ⟨0, 1, 0, xS, cI, mS, _, rfl, rfl, rfl, rfl, hn8, hQ.1, hQ.2, hbk⟩
      refine rd_callV (As := [.int (nI i), .int y]) (rest := []) ⟨hx, hb, hml, hown, hts⟩ (c_X5_canStand l D hmd hi (ok4_in c_25)) (cwV 2 hts gX5_place_X5_canStand rfl rfl rfl (by decide +kernel) ⟨by decide, by decide⟩) hK hN hP (q0 := 0) rfl rfl rfl hl.1 rfl (Nat.le_of_ble_eq_true rfl) ⟨by decide, by decide⟩ dX5_place_37 ?_
      refine rd_ifne_b (tgt := 49) hx hb dX5_place_40 (by decide) (fun c_40 => ?_) (fun c_40 => ?_)
      · refine lv_aload_n hx hb dX5_place_49 rfl (lv_at hl 0 rfl) ?_
        refine wr_callV (As := []) (rest := []) ⟨hx, hb, hml, hown, hts⟩ (c_X5_saves l D (q := q) hq6) (cwV 0 hts gX5_place_X5_saves rfl rfl rfl (by decide +kernel) ⟨by decide, by decide⟩) hK hN hZ hP hD hS [0, 1, 2, 3, 4, 5, 6, 7] [0] rfl (by decide) rfl (q0 := 0) rfl rfl rfl hl.1 rfl (Nat.le_of_ble_eq_true rfl) ⟨by decide, by decide⟩ dX5_place_50 (fun v9 w9 H locs hp9 hP hD hS => ?_)
        obtain ⟨rfl, rfl⟩ := hp9
        have hP : va_P D vwCl (MdW om xS xV xB xT xA xP xR cI 0 mS (svF q mSv mS) (nI ((if q < 6 then q else 5) + 1)) mBf kLn mTl mAl mPl kBs kLf kAt kWl mRd kRm hsh) H := hP
        have hD : va_D (wr_in (MdW om xS xV xB xT xA xP xR cI thr mS mSv (nI q) mBf kLn mTl mAl mPl kBs kLf kAt kWl mRd kRm hsh)) (MdW om xS xV xB xT xA xP xR cI 0 mS (svF q mSv mS) (nI ((if q < 6 then q else 5) + 1)) mBf kLn mTl mAl mPl kBs kLf kAt kWl mRd kRm hsh) := hD
        refine W.eq (g2 := F0 m 53 ls []) rfl ?_
        refine lv_aload_n hx hb dX5_place_53 rfl (lv_at hl 0 rfl) ?_
        refine lv_iload_n hx hb dX5_place_54 rfl (lv_at hl 1 rfl) ?_
        have hmd : md_in (MdW om xS xV xB xT xA xP xR cI 0 mS (svF q mSv mS) (nI ((if q < 6 then q else 5) + 1)) mBf kLn mTl mAl mPl kBs kLf kAt kWl mRd kRm hsh) [(cI, .int)] om n P := ⟨0, 1, 0, xS, cI, mS, _, rfl, rfl, rfl, rfl, hn8, hQ.1, hQ.2, hbk⟩
        refine rd_callV (As := [.int (nI i)]) (rest := []) ⟨hx, hb, hml, hown, hts⟩ (c_X5_cornerOf l D hmd hi) (cwV 1 hts gX5_place_X5_cornerOf rfl rfl rfl (by decide +kernel) ⟨by decide, by decide⟩) hK hN hP (q0 := 0) rfl rfl rfl hl.1 rfl (Nat.le_of_ble_eq_true rfl) ⟨by decide, by decide⟩ dX5_place_55 ?_
        refine lv_istore_n (lv' := [(3, .int (P i 5)), (0, .ref om), (1, .int (nI i)), (2, .int y)]) hx hb dX5_place_58 rfl hl (by decide) rfl (fun ls hl => ?_)
        refine lv_aload_n hx hb dX5_place_59 rfl (lv_at hl 1 rfl) ?_
        refine lv_iload_n hx hb dX5_place_60 rfl (lv_at hl 2 rfl) ?_
        refine lv_iload_n hx hb dX5_place_61 rfl (lv_at hl 3 rfl) ?_
        refine wr_callV (As := [.int (nI i), .int y]) (rest := []) ⟨hx, hb, hml, hown, hts⟩ (c_X5_stands l D (i := i) (by omega) y) (cwV 2 hts gX5_place_X5_stands rfl rfl rfl (by decide +kernel) ⟨by decide, by decide⟩) hK hN hZ hP hD hS [0, 1, 2, 3, 4, 5, 6, 7] [0] rfl (by decide) rfl (q0 := 0) rfl rfl rfl hl.1 rfl (Nat.le_of_ble_eq_true rfl) ⟨by decide, by decide⟩ dX5_place_62 (fun v9 w9 H locs hp9 hP hD hS => ?_)
        obtain ⟨rfl, rfl⟩ := hp9
        obtain ⟨mS_62, emS_62⟩ : ∃ zz9 : Nat → Int32, zz9 = upd mS (1 + 6 * i + 5) (y + 1) := ⟨_, rfl⟩
        rw [← emS_62] at hP hD
        have hP : va_P D vwCl (MdW om xS xV xB xT xA xP xR cI 0 mS_62 (svF q mSv mS) (nI ((if q < 6 then q else 5) + 1)) mBf kLn mTl mAl mPl kBs kLf kAt kWl mRd kRm hsh) H := hP
        have hD : va_D (wr_in (MdW om xS xV xB xT xA xP xR cI thr mS mSv (nI q) mBf kLn mTl mAl mPl kBs kLf kAt kWl mRd kRm hsh)) (MdW om xS xV xB xT xA xP xR cI 0 mS_62 (svF q mSv mS) (nI ((if q < 6 then q else 5) + 1)) mBf kLn mTl mAl mPl kBs kLf kAt kWl mRd kRm hsh) := hD
        refine W.eq (g2 := F0 m 65 ls []) rfl ?_
        refine lv_iload_n hx hb dX5_place_65 rfl (lv_at hl 0 rfl) ?_
        exact wr_iret hx hb hr hlocks hP hS rfl dX5_place_66 (by exact Or.inr ⟨i, hi, ei, Or.inr ⟨c_25, Or.inr ⟨c_40, rfl, _, mdS_set5 hi hQ emS_62, rfl⟩⟩⟩)
      · refine lv_aload_n hx hb dX5_place_43 rfl (lv_at hl 0 rfl) ?_
        refine lv_iconst (v := 3) hx hb dX5_place_44 (by decide) ?_
        refine wr_callV (As := [.int 3]) (rest := []) ⟨hx, hb, hml, hown, hts⟩ (c_X5_fails l D 3) (cwV 1 hts gX5_place_X5_fails rfl rfl rfl (by decide +kernel) ⟨by decide, by decide⟩) hK hN hZ hP hD hS [0, 1, 2, 3, 4, 5, 6, 7] [0] rfl (by decide) rfl (q0 := 0) rfl rfl rfl hl.1 rfl (Nat.le_of_ble_eq_true rfl) ⟨by decide, by decide⟩ dX5_place_45 (fun v9 w9 H locs hp9 hP hD hS => ?_)
        obtain ⟨rfl, rfl⟩ := hp9
        have hP : va_P D vwCl (MdW om xS xV xB xT xA xP xR cI 3 mS mSv (nI q) mBf kLn mTl mAl mPl kBs kLf kAt kWl mRd kRm hsh) H := hP
        have hD : va_D (wr_in (MdW om xS xV xB xT xA xP xR cI thr mS mSv (nI q) mBf kLn mTl mAl mPl kBs kLf kAt kWl mRd kRm hsh)) (MdW om xS xV xB xT xA xP xR cI 3 mS mSv (nI q) mBf kLn mTl mAl mPl kBs kLf kAt kWl mRd kRm hsh) := hD
        refine W.eq (g2 := F0 m 48 ls [.int 0]) rfl ?_
        exact wr_iret hx hb hr hlocks hP hS rfl dX5_place_48 (by exact Or.inr ⟨i, hi, ei, Or.inr ⟨c_25, Or.inl ⟨c_40, rfl, rfl⟩⟩⟩)
    · refine lv_aload_n hx hb dX5_place_28 rfl (lv_at hl 0 rfl) ?_
      refine lv_iconst (v := 2) hx hb dX5_place_29 (by decide) ?_
      refine wr_callV (As := [.int 2]) (rest := []) ⟨hx, hb, hml, hown, hts⟩ (c_X5_fails l D 2) (cwV 1 hts gX5_place_X5_fails rfl rfl rfl (by decide +kernel) ⟨by decide, by decide⟩) hK hN hZ hP hD hS [0, 1, 2, 3, 4, 5, 6, 7] [0] rfl (by decide) rfl (q0 := 0) rfl rfl rfl hl.1 rfl (Nat.le_of_ble_eq_true rfl) ⟨by decide, by decide⟩ dX5_place_30 (fun v9 w9 H locs hp9 hP hD hS => ?_)
      obtain ⟨rfl, rfl⟩ := hp9
      have hP : va_P D vwCl (MdW om xS xV xB xT xA xP xR cI 2 mS mSv (nI q) mBf kLn mTl mAl mPl kBs kLf kAt kWl mRd kRm hsh) H := hP
      have hD : va_D (wr_in (MdW om xS xV xB xT xA xP xR cI thr mS mSv (nI q) mBf kLn mTl mAl mPl kBs kLf kAt kWl mRd kRm hsh)) (MdW om xS xV xB xT xA xP xR cI 2 mS mSv (nI q) mBf kLn mTl mAl mPl kBs kLf kAt kWl mRd kRm hsh) := hD
      refine W.eq (g2 := F0 m 33 ls [.int 0]) rfl ?_
      exact wr_iret hx hb hr hlocks hP hS rfl dX5_place_33 (by exact Or.inr ⟨i, hi, ei, Or.inl ⟨c_25, rfl, rfl⟩⟩)
  · refine lv_aload_n hx hb dX5_place_13 rfl (lv_at hl 0 rfl) ?_
    refine lv_iconst (v := 1) hx hb dX5_place_14 (by decide) ?_
    refine wr_callV (As := [.int 1]) (rest := []) ⟨hx, hb, hml, hown, hts⟩ (c_X5_fails l D 1) (cwV 1 hts gX5_place_X5_fails rfl rfl rfl (by decide +kernel) ⟨by decide, by decide⟩) hK hN hZ hP hD hS [0, 1, 2, 3, 4, 5, 6, 7] [0] rfl (by decide) rfl (q0 := 0) rfl rfl rfl hl.1 rfl (Nat.le_of_ble_eq_true rfl) ⟨by decide, by decide⟩ dX5_place_15 (fun v9 w9 H locs hp9 hP hD hS => ?_)
    obtain ⟨rfl, rfl⟩ := hp9
    have hP : va_P D vwCl (MdW om xS xV xB xT xA xP xR cI 1 mS mSv (nI q) mBf kLn mTl mAl mPl kBs kLf kAt kWl mRd kRm hsh) H := hP
    have hD : va_D (wr_in (MdW om xS xV xB xT xA xP xR cI thr mS mSv (nI q) mBf kLn mTl mAl mPl kBs kLf kAt kWl mRd kRm hsh)) (MdW om xS xV xB xT xA xP xR cI 1 mS mSv (nI q) mBf kLn mTl mAl mPl kBs kLf kAt kWl mRd kRm hsh) := hD
    refine W.eq (g2 := F0 m 18 ls [.int 0]) rfl ?_
    exact wr_iret hx hb hr hlocks hP hS rfl dX5_place_18 (by exact Or.inl ⟨c_10, rfl, rfl⟩)
set_option maxHeartbeats 4000000 in
set_option maxRecDepth 100000 in
theorem c_X5_point (l : Launch) (D : va_G) {om xS xV xB xT xA xP xR : Nat} {cI : ClassId} {thr kLn kBs kLf kAt kWl kRm : Int32} {hsh : Int64} {mS mSv mBf mTl mAl mPl mRd : Nat → Int32} {n : Nat} {P : Nat → Nat → Int32} {q : Nat} (hq6 : q ≤ 6) (hn8 : n ≤ 8) (hQ : mdS n P mS) (hbk : bd_ok n P) (x y : Int32) : wr_M l yX5_point wsX5_point ({ frames := 8, cells := 0, slots := 0, locals := 183 } : Room) D (MdW om xS xV xB xT xA xP xR cI thr mS mSv (nI q) mBf kLn mTl mAl mPl kBs kLf kAt kWl mRd kRm hsh) [(cI, .int)] [.ref om, .int x, .int y] (fun v w9 => (gHas n x = false ∧ v = some (.int 0) ∧ w9 = MdW om xS xV xB xT xA xP xR cI 1 mS mSv (nI q) mBf kLn mTl mAl mPl kBs kLf kAt kWl mRd kRm hsh) ∨ (∃ i, i < n ∧ x = nI i ∧ ((mIn y 0 8 = false ∧ v = some (.int 0) ∧ w9 = MdW om xS xV xB xT xA xP xR cI 2 mS mSv (nI q) mBf kLn mTl mAl mPl kBs kLf kAt kWl mRd kRm hsh) ∨ (∃ k, k < 9 ∧ y = nI k ∧ v = some (.int (gPr n P i k)) ∧ w9 = MdW om xS xV xB xT xA xP xR cI 0 mS mSv (nI q) mBf kLn mTl mAl mPl kBs kLf kAt kWl mRd kRm hsh)))) := by
  refine wr_of (cc := cX5_point) (maxL := 3) (ret := some .int) (by decide) rfl (Nat.le_of_ble_eq_true rfl) ?_
  intro p e s m below meth c hx hb hr hml hts hown hlocks hP hK hN hZ hD hS ls hl
  have hown : s.vm.findClass RX5 = some m.cls := hown
  have hl : lv_has ls 3 [(0, .ref om), (1, .int x), (2, .int y)] := hl
  have hinX5 : ∀ w ∈ u_ws RX5 TX5 16, w ∈ wsX5_point := by decide +kernel
  have hw31 := hts (.fieldLink RX5 31 "CornerLabelsModel" "thrown" "I") (by decide +kernel)
  suffices body : ∀ (H : Heap) (locs : List Loc), va_P D vwCl (MdW om xS xV xB xT xA xP xR cI thr mS mSv (nI q) mBf kLn mTl mAl mPl kBs kLf kAt kWl mRd kRm hsh) H → va_D (wr_in (MdW om xS xV xB xT xA xP xR cI thr mS mSv (nI q) mBf kLn mTl mAl mPl kBs kLf kAt kWl mRd kRm hsh)) (MdW om xS xV xB xT xA xP xR cI thr mS mSv (nI q) mBf kLn mTl mAl mPl kBs kLf kAt kWl mRd kRm hsh) → va_S (wr_in (MdW om xS xV xB xT xA xP xR cI thr mS mSv (nI q) mBf kLn mTl mAl mPl kBs kLf kAt kWl mRd kRm hsh)) s.heap H locs → wr_W p l e wsX5_point ({ frames := 8, cells := 0, slots := 0, locals := 183 } : Room) s m [.ref om, .int x, .int y] below meth c D (MdW om xS xV xB xT xA xP xR cI thr mS mSv (nI q) mBf kLn mTl mAl mPl kBs kLf kAt kWl mRd kRm hsh) (fun v w9 => (gHas n x = false ∧ v = some (.int 0) ∧ w9 = MdW om xS xV xB xT xA xP xR cI 1 mS mSv (nI q) mBf kLn mTl mAl mPl kBs kLf kAt kWl mRd kRm hsh) ∨ (∃ i, i < n ∧ x = nI i ∧ ((mIn y 0 8 = false ∧ v = some (.int 0) ∧ w9 = MdW om xS xV xB xT xA xP xR cI 2 mS mSv (nI q) mBf kLn mTl mAl mPl kBs kLf kAt kWl mRd kRm hsh) ∨ (∃ k, k < 9 ∧ y = nI k ∧ v = some (.int (gPr n P i k)) ∧ w9 = MdW om xS xV xB xT xA xP xR cI 0 mS mSv (nI q) mBf kLn mTl mAl mPl kBs kLf kAt kWl mRd kRm hsh)))) H locs (F0 m 0 ls []) from body _ _ hP hD hS
  clear hP hD hS
  intro H locs hP hD hS
  refine lv_aload_n hx hb dX5_point_0 rfl (lv_at hl 0 rfl) ?_
  refine lv_iconst (v := 0) hx hb dX5_point_1 (by decide) ?_
  refine va_put (D := D) (ci := 5) (v := .int 0) (ty := .int) (C := RX5) (T := TX5) (N := 16) hx hb hts hinX5 tyX5 tyX5_ok nmX5 hown hK hP hD hS 0 rfl rfl 0 (by decide) hw31 (fun _ h9 => h9) rfl (by decide +kernel) rfl rfl (Nat.le_of_ble_eq_true rfl) dX5_point_2 (fun H locs hP hD hS => ?_)
  have hP : va_P D vwCl (MdW om xS xV xB xT xA xP xR cI 0 mS mSv (nI q) mBf kLn mTl mAl mPl kBs kLf kAt kWl mRd kRm hsh) H := hP
  have hD : va_D (wr_in (MdW om xS xV xB xT xA xP xR cI thr mS mSv (nI q) mBf kLn mTl mAl mPl kBs kLf kAt kWl mRd kRm hsh)) (MdW om xS xV xB xT xA xP xR cI 0 mS mSv (nI q) mBf kLn mTl mAl mPl kBs kLf kAt kWl mRd kRm hsh) := hD
  refine lv_aload_n hx hb dX5_point_5 rfl (lv_at hl 0 rfl) ?_
  refine lv_iload_n hx hb dX5_point_6 rfl (lv_at hl 1 rfl) ?_
  have hmd : md_in (MdW om xS xV xB xT xA xP xR cI 0 mS mSv (nI q) mBf kLn mTl mAl mPl kBs kLf kAt kWl mRd kRm hsh) [(cI, .int)] om n P := ⟨0, 1, 0, xS, cI, mS, _, rfl, rfl, rfl, rfl, hn8, hQ.1, hQ.2, hbk⟩
  refine rd_callV (As := [.int x]) (rest := []) ⟨hx, hb, hml, hown, hts⟩ (c_X5_isPoint l D hmd x) (cwV 1 hts gX5_point_X5_isPoint rfl rfl rfl (by decide +kernel) ⟨by decide, by decide⟩) hK hN hP (q0 := 0) rfl rfl rfl hl.1 rfl (Nat.le_of_ble_eq_true rfl) ⟨by decide, by decide⟩ dX5_point_7 ?_
  refine rd_ifne_b (tgt := 19) hx hb dX5_point_10 (by decide) (fun c_10 => ?_) (fun c_10 => ?_)
  · obtain ⟨i, hi, ei⟩ := (gHas_iff hn8).mp c_10
    rw [ei] at hl
    have hl : lv_has ls 3 [(0, .ref om), (1, .int (nI i)), (2, .int y)] := hl
    refine lv_iload_n hx hb dX5_point_19 rfl (lv_at hl 2 rfl) ?_
    refine lv_iconst (v := 0) hx hb dX5_point_20 (by decide) ?_
    refine lv_bipush (v := 8) hx hb dX5_point_21 (by decide) ?_
    refine rd_callS (As := [.int y, .int 0, .int 8]) (rest := []) ⟨hx, hb, hml, hown, hts⟩ (c_X5_in l D y 0 8) (va_cwS 3 hts gX5_point_X5_in rfl rfl rfl (by decide +kernel) ⟨by decide, by decide⟩) hK hN hP rfl hl.1 rfl (Nat.le_of_ble_eq_true rfl) ⟨by decide, by decide⟩ dX5_point_23 ?_
    refine rd_ifeq_b (tgt := 38) hx hb dX5_point_26 (by decide) (fun c_26 => ?_) (fun c_26 => ?_)
    · refine lv_aload_n hx hb dX5_point_38 rfl (lv_at hl 0 rfl) ?_
      refine lv_iconst (v := 2) hx hb dX5_point_39 (by decide) ?_
      refine wr_callV (As := [.int 2]) (rest := []) ⟨hx, hb, hml, hown, hts⟩ (c_X5_fails l D 2) (cwV 1 hts gX5_point_X5_fails rfl rfl rfl (by decide +kernel) ⟨by decide, by decide⟩) hK hN hZ hP hD hS [0, 1, 2, 3, 4, 5, 6, 7] [0] rfl (by decide) rfl (q0 := 0) rfl rfl rfl hl.1 rfl (Nat.le_of_ble_eq_true rfl) ⟨by decide, by decide⟩ dX5_point_40 (fun v9 w9 H locs hp9 hP hD hS => ?_)
      obtain ⟨rfl, rfl⟩ := hp9
      have hP : va_P D vwCl (MdW om xS xV xB xT xA xP xR cI 2 mS mSv (nI q) mBf kLn mTl mAl mPl kBs kLf kAt kWl mRd kRm hsh) H := hP
      have hD : va_D (wr_in (MdW om xS xV xB xT xA xP xR cI thr mS mSv (nI q) mBf kLn mTl mAl mPl kBs kLf kAt kWl mRd kRm hsh)) (MdW om xS xV xB xT xA xP xR cI 2 mS mSv (nI q) mBf kLn mTl mAl mPl kBs kLf kAt kWl mRd kRm hsh) := hD
      refine W.eq (g2 := F0 m 43 ls [.int 0]) rfl ?_
      exact wr_iret hx hb hr hlocks hP hS rfl dX5_point_43 (by exact Or.inr ⟨i, hi, ei, Or.inl ⟨c_26, rfl, rfl⟩⟩)
    · obtain ⟨k, hk, ek⟩ := mIn_nat (m := 8) c_26 (by decide)
      have hk : k < 9 := by omega
      rw [ek] at hl
      have hl : lv_has ls 3 [(0, .ref om), (1, .int (nI i)), (2, .int (nI k))] := hl
      refine lv_aload_n hx hb dX5_point_29 rfl (lv_at hl 0 rfl) ?_
      refine lv_iload_n hx hb dX5_point_30 rfl (lv_at hl 1 rfl) ?_
      refine lv_iload_n hx hb dX5_point_31 rfl (lv_at hl 2 rfl) ?_
      have hmd : md_in (MdW om xS xV xB xT xA xP xR cI 0 mS mSv (nI q) mBf kLn mTl mAl mPl kBs kLf kAt kWl mRd kRm hsh) [(cI, .int)] om n P := ⟨0, 1, 0, xS, cI, mS, _, rfl, rfl, rfl, rfl, hn8, hQ.1, hQ.2, hbk⟩
      refine rd_callV (As := [.int (nI i), .int (nI k)]) (rest := []) ⟨hx, hb, hml, hown, hts⟩ (c_X5_tellsPoint l D hmd hi hk) (cwV 2 hts gX5_point_X5_tellsPoint rfl rfl rfl (by decide +kernel) ⟨by decide, by decide⟩) hK hN hP (q0 := 0) rfl rfl rfl hl.1 rfl (Nat.le_of_ble_eq_true rfl) ⟨by decide, by decide⟩ dX5_point_32 ?_
      refine lv_goto (tgt := 43) hx hb dX5_point_35 (by decide) ?_
      exact wr_iret hx hb hr hlocks hP hS rfl dX5_point_43 (by exact Or.inr ⟨i, hi, ei, Or.inr ⟨k, hk, ek, rfl, rfl⟩⟩)
  · refine lv_aload_n hx hb dX5_point_13 rfl (lv_at hl 0 rfl) ?_
    refine lv_iconst (v := 1) hx hb dX5_point_14 (by decide) ?_
    refine wr_callV (As := [.int 1]) (rest := []) ⟨hx, hb, hml, hown, hts⟩ (c_X5_fails l D 1) (cwV 1 hts gX5_point_X5_fails rfl rfl rfl (by decide +kernel) ⟨by decide, by decide⟩) hK hN hZ hP hD hS [0, 1, 2, 3, 4, 5, 6, 7] [0] rfl (by decide) rfl (q0 := 0) rfl rfl rfl hl.1 rfl (Nat.le_of_ble_eq_true rfl) ⟨by decide, by decide⟩ dX5_point_15 (fun v9 w9 H locs hp9 hP hD hS => ?_)
    obtain ⟨rfl, rfl⟩ := hp9
    have hP : va_P D vwCl (MdW om xS xV xB xT xA xP xR cI 1 mS mSv (nI q) mBf kLn mTl mAl mPl kBs kLf kAt kWl mRd kRm hsh) H := hP
    have hD : va_D (wr_in (MdW om xS xV xB xT xA xP xR cI thr mS mSv (nI q) mBf kLn mTl mAl mPl kBs kLf kAt kWl mRd kRm hsh)) (MdW om xS xV xB xT xA xP xR cI 1 mS mSv (nI q) mBf kLn mTl mAl mPl kBs kLf kAt kWl mRd kRm hsh) := hD
    refine W.eq (g2 := F0 m 18 ls [.int 0]) rfl ?_
    exact wr_iret hx hb hr hlocks hP hS rfl dX5_point_18 (by exact Or.inl ⟨c_10, rfl, rfl⟩)
set_option maxHeartbeats 4000000 in
set_option maxRecDepth 100000 in
theorem c_X5_at (l : Launch) (D : va_G) {om xS xV xB xT xA xP xR : Nat} {cI : ClassId} {thr kLn kBs kLf kAt kWl kRm : Int32} {hsh : Int64} {mS mSv mBf mTl mAl mPl mRd : Nat → Int32} {n : Nat} {P : Nat → Nat → Int32} {q : Nat} (hq6 : q ≤ 6) (hn8 : n ≤ 8) (hQ : mdS n P mS) (hbk : bd_ok n P) (x y : Int32) : wr_M l yX5_at wsX5_at ({ frames := 5, cells := 0, slots := 0, locals := 113 } : Room) D (MdW om xS xV xB xT xA xP xR cI thr mS mSv (nI q) mBf kLn mTl mAl mPl kBs kLf kAt kWl mRd kRm hsh) [(cI, .int)] [.ref om, .int x, .int y] (fun v w9 => ((mIn x 0 59 && mIn y 0 39) = false ∧ v = some (.int 0) ∧ w9 = MdW om xS xV xB xT xA xP xR cI 1 mS mSv (nI q) mBf kLn mTl mAl mPl kBs kLf kAt kWl mRd kRm hsh) ∨ ((mIn x 0 59 && mIn y 0 39) = true ∧ v = some (.int (mAt n P x y)) ∧ w9 = MdW om xS xV xB xT xA xP xR cI 0 mS mSv (nI q) mBf kLn mTl mAl mPl kBs kLf kAt kWl mRd kRm hsh)) := by
  refine wr_of (cc := cX5_at) (maxL := 3) (ret := some .int) (by decide) rfl (Nat.le_of_ble_eq_true rfl) ?_
  intro p e s m below meth c hx hb hr hml hts hown hlocks hP hK hN hZ hD hS ls hl
  have hown : s.vm.findClass RX5 = some m.cls := hown
  have hl : lv_has ls 3 [(0, .ref om), (1, .int x), (2, .int y)] := hl
  have hinX5 : ∀ w ∈ u_ws RX5 TX5 16, w ∈ wsX5_at := by decide +kernel
  have hw31 := hts (.fieldLink RX5 31 "CornerLabelsModel" "thrown" "I") (by decide +kernel)
  suffices body : ∀ (H : Heap) (locs : List Loc), va_P D vwCl (MdW om xS xV xB xT xA xP xR cI thr mS mSv (nI q) mBf kLn mTl mAl mPl kBs kLf kAt kWl mRd kRm hsh) H → va_D (wr_in (MdW om xS xV xB xT xA xP xR cI thr mS mSv (nI q) mBf kLn mTl mAl mPl kBs kLf kAt kWl mRd kRm hsh)) (MdW om xS xV xB xT xA xP xR cI thr mS mSv (nI q) mBf kLn mTl mAl mPl kBs kLf kAt kWl mRd kRm hsh) → va_S (wr_in (MdW om xS xV xB xT xA xP xR cI thr mS mSv (nI q) mBf kLn mTl mAl mPl kBs kLf kAt kWl mRd kRm hsh)) s.heap H locs → wr_W p l e wsX5_at ({ frames := 5, cells := 0, slots := 0, locals := 113 } : Room) s m [.ref om, .int x, .int y] below meth c D (MdW om xS xV xB xT xA xP xR cI thr mS mSv (nI q) mBf kLn mTl mAl mPl kBs kLf kAt kWl mRd kRm hsh) (fun v w9 => ((mIn x 0 59 && mIn y 0 39) = false ∧ v = some (.int 0) ∧ w9 = MdW om xS xV xB xT xA xP xR cI 1 mS mSv (nI q) mBf kLn mTl mAl mPl kBs kLf kAt kWl mRd kRm hsh) ∨ ((mIn x 0 59 && mIn y 0 39) = true ∧ v = some (.int (mAt n P x y)) ∧ w9 = MdW om xS xV xB xT xA xP xR cI 0 mS mSv (nI q) mBf kLn mTl mAl mPl kBs kLf kAt kWl mRd kRm hsh)) H locs (F0 m 0 ls []) from body _ _ hP hD hS
  clear hP hD hS
  intro H locs hP hD hS
  refine lv_aload_n hx hb dX5_at_0 rfl (lv_at hl 0 rfl) ?_
  refine lv_iconst (v := 0) hx hb dX5_at_1 (by decide) ?_
  refine va_put (D := D) (ci := 5) (v := .int 0) (ty := .int) (C := RX5) (T := TX5) (N := 16) hx hb hts hinX5 tyX5 tyX5_ok nmX5 hown hK hP hD hS 0 rfl rfl 0 (by decide) hw31 (fun _ h9 => h9) rfl (by decide +kernel) rfl rfl (Nat.le_of_ble_eq_true rfl) dX5_at_2 (fun H locs hP hD hS => ?_)
  have hP : va_P D vwCl (MdW om xS xV xB xT xA xP xR cI 0 mS mSv (nI q) mBf kLn mTl mAl mPl kBs kLf kAt kWl mRd kRm hsh) H := hP
  have hD : va_D (wr_in (MdW om xS xV xB xT xA xP xR cI thr mS mSv (nI q) mBf kLn mTl mAl mPl kBs kLf kAt kWl mRd kRm hsh)) (MdW om xS xV xB xT xA xP xR cI 0 mS mSv (nI q) mBf kLn mTl mAl mPl kBs kLf kAt kWl mRd kRm hsh) := hD
  refine lv_iload_n hx hb dX5_at_5 rfl (lv_at hl 1 rfl) ?_
  refine lv_iconst (v := 0) hx hb dX5_at_6 (by decide) ?_
  refine lv_bipush (v := 59) hx hb dX5_at_7 (by decide) ?_
  refine rd_callS (As := [.int x, .int 0, .int 59]) (rest := []) ⟨hx, hb, hml, hown, hts⟩ (c_X5_in l D x 0 59) (va_cwS 3 hts gX5_at_X5_in rfl rfl rfl (by decide +kernel) ⟨by decide, by decide⟩) hK hN hP rfl hl.1 rfl (Nat.le_of_ble_eq_true rfl) ⟨by decide, by decide⟩ dX5_at_9 ?_
  refine rd_ifeq_b (tgt := 34) hx hb dX5_at_12 (by decide) (fun c_12 => ?_) (fun c_12 => ?_)
  · refine lv_aload_n hx hb dX5_at_34 rfl (lv_at hl 0 rfl) ?_
    refine lv_iconst (v := 1) hx hb dX5_at_35 (by decide) ?_
    refine wr_callV (As := [.int 1]) (rest := []) ⟨hx, hb, hml, hown, hts⟩ (c_X5_fails l D 1) (cwV 1 hts gX5_at_X5_fails rfl rfl rfl (by decide +kernel) ⟨by decide, by decide⟩) hK hN hZ hP hD hS [0, 1, 2, 3, 4, 5, 6, 7] [0] rfl (by decide) rfl (q0 := 0) rfl rfl rfl hl.1 rfl (Nat.le_of_ble_eq_true rfl) ⟨by decide, by decide⟩ dX5_at_36 (fun v9 w9 H locs hp9 hP hD hS => ?_)
    obtain ⟨rfl, rfl⟩ := hp9
    have hP : va_P D vwCl (MdW om xS xV xB xT xA xP xR cI 1 mS mSv (nI q) mBf kLn mTl mAl mPl kBs kLf kAt kWl mRd kRm hsh) H := hP
    have hD : va_D (wr_in (MdW om xS xV xB xT xA xP xR cI thr mS mSv (nI q) mBf kLn mTl mAl mPl kBs kLf kAt kWl mRd kRm hsh)) (MdW om xS xV xB xT xA xP xR cI 1 mS mSv (nI q) mBf kLn mTl mAl mPl kBs kLf kAt kWl mRd kRm hsh) := hD
    refine W.eq (g2 := F0 m 39 ls [.int 0]) rfl ?_
    exact wr_iret hx hb hr hlocks hP hS rfl dX5_at_39 (by exact Or.inl ⟨by simp [c_12], rfl, rfl⟩)
  · refine lv_iload_n hx hb dX5_at_15 rfl (lv_at hl 2 rfl) ?_
    refine lv_iconst (v := 0) hx hb dX5_at_16 (by decide) ?_
    refine lv_bipush (v := 39) hx hb dX5_at_17 (by decide) ?_
    refine rd_callS (As := [.int y, .int 0, .int 39]) (rest := []) ⟨hx, hb, hml, hown, hts⟩ (c_X5_in l D y 0 39) (va_cwS 3 hts gX5_at_X5_in rfl rfl rfl (by decide +kernel) ⟨by decide, by decide⟩) hK hN hP rfl hl.1 rfl (Nat.le_of_ble_eq_true rfl) ⟨by decide, by decide⟩ dX5_at_19 ?_
    refine rd_ifeq_b (tgt := 34) hx hb dX5_at_22 (by decide) (fun c_22 => ?_) (fun c_22 => ?_)
    · refine lv_aload_n hx hb dX5_at_34 rfl (lv_at hl 0 rfl) ?_
      refine lv_iconst (v := 1) hx hb dX5_at_35 (by decide) ?_
      refine wr_callV (As := [.int 1]) (rest := []) ⟨hx, hb, hml, hown, hts⟩ (c_X5_fails l D 1) (cwV 1 hts gX5_at_X5_fails rfl rfl rfl (by decide +kernel) ⟨by decide, by decide⟩) hK hN hZ hP hD hS [0, 1, 2, 3, 4, 5, 6, 7] [0] rfl (by decide) rfl (q0 := 0) rfl rfl rfl hl.1 rfl (Nat.le_of_ble_eq_true rfl) ⟨by decide, by decide⟩ dX5_at_36 (fun v9 w9 H locs hp9 hP hD hS => ?_)
      obtain ⟨rfl, rfl⟩ := hp9
      have hP : va_P D vwCl (MdW om xS xV xB xT xA xP xR cI 1 mS mSv (nI q) mBf kLn mTl mAl mPl kBs kLf kAt kWl mRd kRm hsh) H := hP
      have hD : va_D (wr_in (MdW om xS xV xB xT xA xP xR cI thr mS mSv (nI q) mBf kLn mTl mAl mPl kBs kLf kAt kWl mRd kRm hsh)) (MdW om xS xV xB xT xA xP xR cI 1 mS mSv (nI q) mBf kLn mTl mAl mPl kBs kLf kAt kWl mRd kRm hsh) := hD
      refine W.eq (g2 := F0 m 39 ls [.int 0]) rfl ?_
      exact wr_iret hx hb hr hlocks hP hS rfl dX5_at_39 (by exact Or.inl ⟨by simp [c_12, c_22], rfl, rfl⟩)
    · refine lv_aload_n hx hb dX5_at_25 rfl (lv_at hl 0 rfl) ?_
      refine lv_iload_n hx hb dX5_at_26 rfl (lv_at hl 1 rfl) ?_
      refine lv_iload_n hx hb dX5_at_27 rfl (lv_at hl 2 rfl) ?_
      have hmd : md_in (MdW om xS xV xB xT xA xP xR cI 0 mS mSv (nI q) mBf kLn mTl mAl mPl kBs kLf kAt kWl mRd kRm hsh) [(cI, .int)] om n P := ⟨0, 1, 0, xS, cI, mS, _, rfl, rfl, rfl, rfl, hn8, hQ.1, hQ.2, hbk⟩
      refine rd_callV (As := [.int x, .int y]) (rest := []) ⟨hx, hb, hml, hown, hts⟩ (c_X5_tellsAt l D hmd x y) (cwV 2 hts gX5_at_X5_tellsAt rfl rfl rfl (by decide +kernel) ⟨by decide, by decide⟩) hK hN hP (q0 := 0) rfl rfl rfl hl.1 rfl (Nat.le_of_ble_eq_true rfl) ⟨by decide, by decide⟩ dX5_at_28 ?_
      refine lv_goto (tgt := 39) hx hb dX5_at_31 (by decide) ?_
      exact wr_iret hx hb hr hlocks hP hS rfl dX5_at_39 (by exact Or.inr ⟨by simp [c_12, c_22], rfl, rfl⟩)
set_option maxHeartbeats 4000000 in
set_option maxRecDepth 100000 in
theorem c_X5_clash (l : Launch) (D : va_G) {om xS xV xB xT xA xP xR : Nat} {cI : ClassId} {thr kLn kBs kLf kAt kWl kRm : Int32} {hsh : Int64} {mS mSv mBf mTl mAl mPl mRd : Nat → Int32} {n : Nat} {P : Nat → Nat → Int32} {q : Nat} (hq6 : q ≤ 6) (hn8 : n ≤ 8) (hQ : mdS n P mS) (hbk : bd_ok n P) (x y u z : Int32) : wr_M l yX5_clash wsX5_clash ({ frames := 4, cells := 0, slots := 0, locals := 92 } : Room) D (MdW om xS xV xB xT xA xP xR cI thr mS mSv (nI q) mBf kLn mTl mAl mPl kBs kLf kAt kWl mRd kRm hsh) [(cI, .int)] [.ref om, .int x, .int y, .int u, .int z] (fun v w9 => ((gHas n x && gHas n u) = false ∧ v = some (.int 0) ∧ w9 = MdW om xS xV xB xT xA xP xR cI 1 mS mSv (nI q) mBf kLn mTl mAl mPl kBs kLf kAt kWl mRd kRm hsh) ∨ ((gHas n x && gHas n u) = true ∧ (decide (¬ x = u) && (mIn y 0 3 && mIn z 0 3)) = false ∧ v = some (.int 0) ∧ w9 = MdW om xS xV xB xT xA xP xR cI 2 mS mSv (nI q) mBf kLn mTl mAl mPl kBs kLf kAt kWl mRd kRm hsh) ∨ (∃ i j, i < n ∧ j < n ∧ x = nI i ∧ u = nI j ∧ (decide (¬ x = u) && (mIn y 0 3 && mIn z 0 3)) = true ∧ v = some (.int (gSh P i y j z)) ∧ w9 = MdW om xS xV xB xT xA xP xR cI 0 mS mSv (nI q) mBf kLn mTl mAl mPl kBs kLf kAt kWl mRd kRm hsh)) := by
  refine wr_of (cc := cX5_clash) (maxL := 5) (ret := some .int) (by decide) rfl (Nat.le_of_ble_eq_true rfl) ?_
  intro p e s m below meth c hx hb hr hml hts hown hlocks hP hK hN hZ hD hS ls hl
  have hown : s.vm.findClass RX5 = some m.cls := hown
  have hl : lv_has ls 5 [(0, .ref om), (1, .int x), (2, .int y), (3, .int u), (4, .int z)] := hl
  have hinX5 : ∀ w ∈ u_ws RX5 TX5 16, w ∈ wsX5_clash := by decide +kernel
  have hw31 := hts (.fieldLink RX5 31 "CornerLabelsModel" "thrown" "I") (by decide +kernel)
  suffices body : ∀ (H : Heap) (locs : List Loc), va_P D vwCl (MdW om xS xV xB xT xA xP xR cI thr mS mSv (nI q) mBf kLn mTl mAl mPl kBs kLf kAt kWl mRd kRm hsh) H → va_D (wr_in (MdW om xS xV xB xT xA xP xR cI thr mS mSv (nI q) mBf kLn mTl mAl mPl kBs kLf kAt kWl mRd kRm hsh)) (MdW om xS xV xB xT xA xP xR cI thr mS mSv (nI q) mBf kLn mTl mAl mPl kBs kLf kAt kWl mRd kRm hsh) → va_S (wr_in (MdW om xS xV xB xT xA xP xR cI thr mS mSv (nI q) mBf kLn mTl mAl mPl kBs kLf kAt kWl mRd kRm hsh)) s.heap H locs → wr_W p l e wsX5_clash ({ frames := 4, cells := 0, slots := 0, locals := 92 } : Room) s m [.ref om, .int x, .int y, .int u, .int z] below meth c D (MdW om xS xV xB xT xA xP xR cI thr mS mSv (nI q) mBf kLn mTl mAl mPl kBs kLf kAt kWl mRd kRm hsh) (fun v w9 => ((gHas n x && gHas n u) = false ∧ v = some (.int 0) ∧ w9 = MdW om xS xV xB xT xA xP xR cI 1 mS mSv (nI q) mBf kLn mTl mAl mPl kBs kLf kAt kWl mRd kRm hsh) ∨ ((gHas n x && gHas n u) = true ∧ (decide (¬ x = u) && (mIn y 0 3 && mIn z 0 3)) = false ∧ v = some (.int 0) ∧ w9 = MdW om xS xV xB xT xA xP xR cI 2 mS mSv (nI q) mBf kLn mTl mAl mPl kBs kLf kAt kWl mRd kRm hsh) ∨ (∃ i j, i < n ∧ j < n ∧ x = nI i ∧ u = nI j ∧ (decide (¬ x = u) && (mIn y 0 3 && mIn z 0 3)) = true ∧ v = some (.int (gSh P i y j z)) ∧ w9 = MdW om xS xV xB xT xA xP xR cI 0 mS mSv (nI q) mBf kLn mTl mAl mPl kBs kLf kAt kWl mRd kRm hsh)) H locs (F0 m 0 ls []) from body _ _ hP hD hS
  clear hP hD hS
  intro H locs hP hD hS
  refine lv_aload_n hx hb dX5_clash_0 rfl (lv_at hl 0 rfl) ?_
  refine lv_iconst (v := 0) hx hb dX5_clash_1 (by decide) ?_
  refine va_put (D := D) (ci := 5) (v := .int 0) (ty := .int) (C := RX5) (T := TX5) (N := 16) hx hb hts hinX5 tyX5 tyX5_ok nmX5 hown hK hP hD hS 0 rfl rfl 0 (by decide) hw31 (fun _ h9 => h9) rfl (by decide +kernel) rfl rfl (Nat.le_of_ble_eq_true rfl) dX5_clash_2 (fun H locs hP hD hS => ?_)
  have hP : va_P D vwCl (MdW om xS xV xB xT xA xP xR cI 0 mS mSv (nI q) mBf kLn mTl mAl mPl kBs kLf kAt kWl mRd kRm hsh) H := hP
  have hD : va_D (wr_in (MdW om xS xV xB xT xA xP xR cI thr mS mSv (nI q) mBf kLn mTl mAl mPl kBs kLf kAt kWl mRd kRm hsh)) (MdW om xS xV xB xT xA xP xR cI 0 mS mSv (nI q) mBf kLn mTl mAl mPl kBs kLf kAt kWl mRd kRm hsh) := hD
  refine lv_aload_n hx hb dX5_clash_5 rfl (lv_at hl 0 rfl) ?_
  refine lv_iload_n hx hb dX5_clash_6 rfl (lv_at hl 1 rfl) ?_
  have hmd : md_in (MdW om xS xV xB xT xA xP xR cI 0 mS mSv (nI q) mBf kLn mTl mAl mPl kBs kLf kAt kWl mRd kRm hsh) [(cI, .int)] om n P := ⟨0, 1, 0, xS, cI, mS, _, rfl, rfl, rfl, rfl, hn8, hQ.1, hQ.2, hbk⟩
  refine rd_callV (As := [.int x]) (rest := []) ⟨hx, hb, hml, hown, hts⟩ (c_X5_isPoint l D hmd x) (cwV 1 hts gX5_clash_X5_isPoint rfl rfl rfl (by decide +kernel) ⟨by decide, by decide⟩) hK hN hP (q0 := 0) rfl rfl rfl hl.1 rfl (Nat.le_of_ble_eq_true rfl) ⟨by decide, by decide⟩ dX5_clash_7 ?_
  refine rd_ifeq_b (tgt := 21) hx hb dX5_clash_10 (by decide) (fun c_10 => ?_) (fun c_10 => ?_)
  · refine lv_aload_n hx hb dX5_clash_21 rfl (lv_at hl 0 rfl) ?_
    refine lv_iconst (v := 1) hx hb dX5_clash_22 (by decide) ?_
    refine wr_callV (As := [.int 1]) (rest := []) ⟨hx, hb, hml, hown, hts⟩ (c_X5_fails l D 1) (cwV 1 hts gX5_clash_X5_fails rfl rfl rfl (by decide +kernel) ⟨by decide, by decide⟩) hK hN hZ hP hD hS [0, 1, 2, 3, 4, 5, 6, 7] [0] rfl (by decide) rfl (q0 := 0) rfl rfl rfl hl.1 rfl (Nat.le_of_ble_eq_true rfl) ⟨by decide, by decide⟩ dX5_clash_23 (fun v9 w9 H locs hp9 hP hD hS => ?_)
    obtain ⟨rfl, rfl⟩ := hp9
    have hP : va_P D vwCl (MdW om xS xV xB xT xA xP xR cI 1 mS mSv (nI q) mBf kLn mTl mAl mPl kBs kLf kAt kWl mRd kRm hsh) H := hP
    have hD : va_D (wr_in (MdW om xS xV xB xT xA xP xR cI thr mS mSv (nI q) mBf kLn mTl mAl mPl kBs kLf kAt kWl mRd kRm hsh)) (MdW om xS xV xB xT xA xP xR cI 1 mS mSv (nI q) mBf kLn mTl mAl mPl kBs kLf kAt kWl mRd kRm hsh) := hD
    refine W.eq (g2 := F0 m 26 ls [.int 0]) rfl ?_
    exact wr_iret hx hb hr hlocks hP hS rfl dX5_clash_26 (by exact Or.inl ⟨by simp [c_10], rfl, rfl⟩)
  · refine lv_aload_n hx hb dX5_clash_13 rfl (lv_at hl 0 rfl) ?_
    refine lv_iload_n hx hb dX5_clash_14 rfl (lv_at hl 3 rfl) ?_
    have hmd : md_in (MdW om xS xV xB xT xA xP xR cI 0 mS mSv (nI q) mBf kLn mTl mAl mPl kBs kLf kAt kWl mRd kRm hsh) [(cI, .int)] om n P := ⟨0, 1, 0, xS, cI, mS, _, rfl, rfl, rfl, rfl, hn8, hQ.1, hQ.2, hbk⟩
    refine rd_callV (As := [.int u]) (rest := []) ⟨hx, hb, hml, hown, hts⟩ (c_X5_isPoint l D hmd u) (cwV 1 hts gX5_clash_X5_isPoint rfl rfl rfl (by decide +kernel) ⟨by decide, by decide⟩) hK hN hP (q0 := 0) rfl rfl rfl hl.1 rfl (Nat.le_of_ble_eq_true rfl) ⟨by decide, by decide⟩ dX5_clash_15 ?_
    refine rd_ifne_b (tgt := 27) hx hb dX5_clash_18 (by decide) (fun c_18 => ?_) (fun c_18 => ?_)
    · refine lv_iload_n hx hb dX5_clash_27 rfl (lv_at hl 1 rfl) ?_
      refine lv_iload_n hx hb dX5_clash_28 rfl (lv_at hl 3 rfl) ?_
      refine lv_icmp_eq (tgt := 51) hx hb dX5_clash_29 (by decide) (fun c_29 => ?_) (fun c_29 => ?_)
      · refine lv_aload_n hx hb dX5_clash_51 rfl (lv_at hl 0 rfl) ?_
        refine lv_iconst (v := 2) hx hb dX5_clash_52 (by decide) ?_
        refine wr_callV (As := [.int 2]) (rest := []) ⟨hx, hb, hml, hown, hts⟩ (c_X5_fails l D 2) (cwV 1 hts gX5_clash_X5_fails rfl rfl rfl (by decide +kernel) ⟨by decide, by decide⟩) hK hN hZ hP hD hS [0, 1, 2, 3, 4, 5, 6, 7] [0] rfl (by decide) rfl (q0 := 0) rfl rfl rfl hl.1 rfl (Nat.le_of_ble_eq_true rfl) ⟨by decide, by decide⟩ dX5_clash_53 (fun v9 w9 H locs hp9 hP hD hS => ?_)
        obtain ⟨rfl, rfl⟩ := hp9
        have hP : va_P D vwCl (MdW om xS xV xB xT xA xP xR cI 2 mS mSv (nI q) mBf kLn mTl mAl mPl kBs kLf kAt kWl mRd kRm hsh) H := hP
        have hD : va_D (wr_in (MdW om xS xV xB xT xA xP xR cI thr mS mSv (nI q) mBf kLn mTl mAl mPl kBs kLf kAt kWl mRd kRm hsh)) (MdW om xS xV xB xT xA xP xR cI 2 mS mSv (nI q) mBf kLn mTl mAl mPl kBs kLf kAt kWl mRd kRm hsh) := hD
        refine W.eq (g2 := F0 m 56 ls [.int 0]) rfl ?_
        exact wr_iret hx hb hr hlocks hP hS rfl dX5_clash_56 (by exact Or.inr (Or.inl ⟨by simp [c_10, c_18], by simp [c_29], rfl, rfl⟩))
      · refine lv_iload_n hx hb dX5_clash_32 rfl (lv_at hl 2 rfl) ?_
        refine lv_iconst (v := 0) hx hb dX5_clash_33 (by decide) ?_
        refine lv_iconst (v := 3) hx hb dX5_clash_34 (by decide) ?_
        refine rd_callS (As := [.int y, .int 0, .int 3]) (rest := []) ⟨hx, hb, hml, hown, hts⟩ (c_X5_in l D y 0 3) (va_cwS 3 hts gX5_clash_X5_in rfl rfl rfl (by decide +kernel) ⟨by decide, by decide⟩) hK hN hP rfl hl.1 rfl (Nat.le_of_ble_eq_true rfl) ⟨by decide, by decide⟩ dX5_clash_35 ?_
        refine rd_ifeq_b (tgt := 51) hx hb dX5_clash_38 (by decide) (fun c_38 => ?_) (fun c_38 => ?_)
        · refine lv_aload_n hx hb dX5_clash_51 rfl (lv_at hl 0 rfl) ?_
          refine lv_iconst (v := 2) hx hb dX5_clash_52 (by decide) ?_
          refine wr_callV (As := [.int 2]) (rest := []) ⟨hx, hb, hml, hown, hts⟩ (c_X5_fails l D 2) (cwV 1 hts gX5_clash_X5_fails rfl rfl rfl (by decide +kernel) ⟨by decide, by decide⟩) hK hN hZ hP hD hS [0, 1, 2, 3, 4, 5, 6, 7] [0] rfl (by decide) rfl (q0 := 0) rfl rfl rfl hl.1 rfl (Nat.le_of_ble_eq_true rfl) ⟨by decide, by decide⟩ dX5_clash_53 (fun v9 w9 H locs hp9 hP hD hS => ?_)
          obtain ⟨rfl, rfl⟩ := hp9
          have hP : va_P D vwCl (MdW om xS xV xB xT xA xP xR cI 2 mS mSv (nI q) mBf kLn mTl mAl mPl kBs kLf kAt kWl mRd kRm hsh) H := hP
          have hD : va_D (wr_in (MdW om xS xV xB xT xA xP xR cI thr mS mSv (nI q) mBf kLn mTl mAl mPl kBs kLf kAt kWl mRd kRm hsh)) (MdW om xS xV xB xT xA xP xR cI 2 mS mSv (nI q) mBf kLn mTl mAl mPl kBs kLf kAt kWl mRd kRm hsh) := hD
          refine W.eq (g2 := F0 m 56 ls [.int 0]) rfl ?_
          exact wr_iret hx hb hr hlocks hP hS rfl dX5_clash_56 (by exact Or.inr (Or.inl ⟨by simp [c_10, c_18], by simp [c_29, c_38], rfl, rfl⟩))
        · refine lv_iload hx hb dX5_clash_41 (lv_at hl 4 rfl) ?_
          refine lv_iconst (v := 0) hx hb dX5_clash_43 (by decide) ?_
          refine lv_iconst (v := 3) hx hb dX5_clash_44 (by decide) ?_
          refine rd_callS (As := [.int z, .int 0, .int 3]) (rest := []) ⟨hx, hb, hml, hown, hts⟩ (c_X5_in l D z 0 3) (va_cwS 3 hts gX5_clash_X5_in rfl rfl rfl (by decide +kernel) ⟨by decide, by decide⟩) hK hN hP rfl hl.1 rfl (Nat.le_of_ble_eq_true rfl) ⟨by decide, by decide⟩ dX5_clash_45 ?_
          refine rd_ifne_b (tgt := 57) hx hb dX5_clash_48 (by decide) (fun c_48 => ?_) (fun c_48 => ?_)
          · obtain ⟨i, hi, ei⟩ := (gHas_iff hn8).mp c_10
            rw [ei] at hl
            have hl : lv_has ls 5 [(0, .ref om), (1, .int (nI i)), (2, .int y), (3, .int u), (4, .int z)] := hl
            obtain ⟨j, hj, ej⟩ := (gHas_iff hn8).mp c_18
            rw [ej] at hl
            have hl : lv_has ls 5 [(0, .ref om), (1, .int (nI i)), (2, .int y), (3, .int (nI j)), (4, .int z)] := hl
            refine lv_aload_n hx hb dX5_clash_57 rfl (lv_at hl 0 rfl) ?_
            refine lv_iload_n hx hb dX5_clash_58 rfl (lv_at hl 1 rfl) ?_
            refine lv_iload_n hx hb dX5_clash_59 rfl (lv_at hl 2 rfl) ?_
            refine lv_iload_n hx hb dX5_clash_60 rfl (lv_at hl 3 rfl) ?_
            refine lv_iload hx hb dX5_clash_61 (lv_at hl 4 rfl) ?_
            have hmd : md_in (MdW om xS xV xB xT xA xP xR cI 0 mS mSv (nI q) mBf kLn mTl mAl mPl kBs kLf kAt kWl mRd kRm hsh) [(cI, .int)] om n P := ⟨0, 1, 0, xS, cI, mS, _, rfl, rfl, rfl, rfl, hn8, hQ.1, hQ.2, hbk⟩
            refine rd_callV (As := [.int (nI i), .int y, .int (nI j), .int z]) (rest := []) ⟨hx, hb, hml, hown, hts⟩ (c_X5_common l D hmd hi (ok4_in c_38) hj (ok4_in c_48)) (cwV 4 hts gX5_clash_X5_common rfl rfl rfl (by decide +kernel) ⟨by decide, by decide⟩) hK hN hP (q0 := 0) rfl rfl rfl hl.1 rfl (Nat.le_of_ble_eq_true rfl) ⟨by decide, by decide⟩ dX5_clash_63 ?_
            exact wr_iret hx hb hr hlocks hP hS rfl dX5_clash_66 (by exact Or.inr (Or.inr ⟨i, j, hi, hj, ei, ej, by simp [c_29, c_38, c_48], rfl, rfl⟩))
          · refine lv_aload_n hx hb dX5_clash_51 rfl (lv_at hl 0 rfl) ?_
            refine lv_iconst (v := 2) hx hb dX5_clash_52 (by decide) ?_
            refine wr_callV (As := [.int 2]) (rest := []) ⟨hx, hb, hml, hown, hts⟩ (c_X5_fails l D 2) (cwV 1 hts gX5_clash_X5_fails rfl rfl rfl (by decide +kernel) ⟨by decide, by decide⟩) hK hN hZ hP hD hS [0, 1, 2, 3, 4, 5, 6, 7] [0] rfl (by decide) rfl (q0 := 0) rfl rfl rfl hl.1 rfl (Nat.le_of_ble_eq_true rfl) ⟨by decide, by decide⟩ dX5_clash_53 (fun v9 w9 H locs hp9 hP hD hS => ?_)
            obtain ⟨rfl, rfl⟩ := hp9
            have hP : va_P D vwCl (MdW om xS xV xB xT xA xP xR cI 2 mS mSv (nI q) mBf kLn mTl mAl mPl kBs kLf kAt kWl mRd kRm hsh) H := hP
            have hD : va_D (wr_in (MdW om xS xV xB xT xA xP xR cI thr mS mSv (nI q) mBf kLn mTl mAl mPl kBs kLf kAt kWl mRd kRm hsh)) (MdW om xS xV xB xT xA xP xR cI 2 mS mSv (nI q) mBf kLn mTl mAl mPl kBs kLf kAt kWl mRd kRm hsh) := hD
            refine W.eq (g2 := F0 m 56 ls [.int 0]) rfl ?_
            exact wr_iret hx hb hr hlocks hP hS rfl dX5_clash_56 (by exact Or.inr (Or.inl ⟨by simp [c_10, c_18], by simp [c_29, c_38, c_48], rfl, rfl⟩))
    · refine lv_aload_n hx hb dX5_clash_21 rfl (lv_at hl 0 rfl) ?_
      refine lv_iconst (v := 1) hx hb dX5_clash_22 (by decide) ?_
      refine wr_callV (As := [.int 1]) (rest := []) ⟨hx, hb, hml, hown, hts⟩ (c_X5_fails l D 1) (cwV 1 hts gX5_clash_X5_fails rfl rfl rfl (by decide +kernel) ⟨by decide, by decide⟩) hK hN hZ hP hD hS [0, 1, 2, 3, 4, 5, 6, 7] [0] rfl (by decide) rfl (q0 := 0) rfl rfl rfl hl.1 rfl (Nat.le_of_ble_eq_true rfl) ⟨by decide, by decide⟩ dX5_clash_23 (fun v9 w9 H locs hp9 hP hD hS => ?_)
      obtain ⟨rfl, rfl⟩ := hp9
      have hP : va_P D vwCl (MdW om xS xV xB xT xA xP xR cI 1 mS mSv (nI q) mBf kLn mTl mAl mPl kBs kLf kAt kWl mRd kRm hsh) H := hP
      have hD : va_D (wr_in (MdW om xS xV xB xT xA xP xR cI thr mS mSv (nI q) mBf kLn mTl mAl mPl kBs kLf kAt kWl mRd kRm hsh)) (MdW om xS xV xB xT xA xP xR cI 1 mS mSv (nI q) mBf kLn mTl mAl mPl kBs kLf kAt kWl mRd kRm hsh) := hD
      refine W.eq (g2 := F0 m 26 ls [.int 0]) rfl ?_
      exact wr_iret hx hb hr hlocks hP hS rfl dX5_clash_26 (by exact Or.inl ⟨by simp [c_10, c_18], rfl, rfl⟩)
