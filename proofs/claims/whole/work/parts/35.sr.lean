set_option maxHeartbeats 4000000 in
set_option maxRecDepth 100000 in
theorem c_X5_searches (l : Launch) (D : va_G) {om xS xV xB xT xA xP xR : Nat} {cI : ClassId} {thr kLn kBs kAt kWl kRm : Int32} {hsh : Int64} {mS mSv mBf mTl mAl mPl mRd : Nat → Int32} {n : Nat} {P : Nat → Nat → Int32} {kLf0 : Int32} {q : Nat} (hq6 : q ≤ 6) (hn8 : n ≤ 8) (hQ : mdS n P mS) (hbk : bd_ok n P) {lf : Nat} (hlf : lf < 3) : wr_M l yX5_searches wsX5_searches ({ frames := 5, cells := 0, slots := 0, locals := 116 } : Room) D (MdW om xS xV xB xT xA xP xR cI thr mS mSv (nI q) mBf kLn mTl mAl mPl kBs kLf0 kAt kWl mRd kRm hsh) [(cI, .int)] [.ref om, .int (nI lf)] (fun v w9 => v = some (.int (srM lf n mAl P n 0 (fun _ => 0) (if lf = 2 then 0 else -1, mPl)).1) ∧ ∃ tl9 : Nat → Int32, w9 = MdW om xS xV xB xT xA xP xR cI thr mS mSv (nI q) mBf kLn tl9 mAl ((srM lf n mAl P n 0 (fun _ => 0) (if lf = 2 then 0 else -1, mPl)).2) ((srM lf n mAl P n 0 (fun _ => 0) (if lf = 2 then 0 else -1, mPl)).1) (nI lf) kAt kWl mRd kRm hsh) := by
  refine wr_of (cc := cX5_searches) (maxL := 3) (ret := some .int) (by decide) rfl (Nat.le_of_ble_eq_true rfl) ?_
  intro p e s m below meth c hx hb hr hml hts hown hlocks hP hK hN hZ hD hS ls hl
  have hown : s.vm.findClass RX5 = some m.cls := hown
  have hl : lv_has ls 3 [(0, .ref om), (1, .int (nI lf))] := hl
  have hinX5 : ∀ w ∈ u_ws RX5 TX5 16, w ∈ wsX5_searches := by decide +kernel
  have hw80 := hts (.fieldLink RX5 80 "CornerLabelsModel" "looksFor" "I") (by decide +kernel)
  have hw83 := hts (.fieldLink RX5 83 "CornerLabelsModel" "best" "I") (by decide +kernel)
  have hw19 := hts (.fieldLink RX5 19 "CornerLabelsModel" "told" "[I") (by decide +kernel)
  have hw7 := hts (.fieldLink RX5 7 "CornerLabelsModel" "s" "[I") (by decide +kernel)
  suffices body : ∀ (H : Heap) (locs : List Loc), va_P D vwCl (MdW om xS xV xB xT xA xP xR cI thr mS mSv (nI q) mBf kLn mTl mAl mPl kBs kLf0 kAt kWl mRd kRm hsh) H → va_D (wr_in (MdW om xS xV xB xT xA xP xR cI thr mS mSv (nI q) mBf kLn mTl mAl mPl kBs kLf0 kAt kWl mRd kRm hsh)) (MdW om xS xV xB xT xA xP xR cI thr mS mSv (nI q) mBf kLn mTl mAl mPl kBs kLf0 kAt kWl mRd kRm hsh) → va_S (wr_in (MdW om xS xV xB xT xA xP xR cI thr mS mSv (nI q) mBf kLn mTl mAl mPl kBs kLf0 kAt kWl mRd kRm hsh)) s.heap H locs → wr_W p l e wsX5_searches ({ frames := 5, cells := 0, slots := 0, locals := 116 } : Room) s m [.ref om, .int (nI lf)] below meth c D (MdW om xS xV xB xT xA xP xR cI thr mS mSv (nI q) mBf kLn mTl mAl mPl kBs kLf0 kAt kWl mRd kRm hsh) (fun v w9 => v = some (.int (srM lf n mAl P n 0 (fun _ => 0) (if lf = 2 then 0 else -1, mPl)).1) ∧ ∃ tl9 : Nat → Int32, w9 = MdW om xS xV xB xT xA xP xR cI thr mS mSv (nI q) mBf kLn tl9 mAl ((srM lf n mAl P n 0 (fun _ => 0) (if lf = 2 then 0 else -1, mPl)).2) ((srM lf n mAl P n 0 (fun _ => 0) (if lf = 2 then 0 else -1, mPl)).1) (nI lf) kAt kWl mRd kRm hsh) H locs (F0 m 0 ls []) from body _ _ hP hD hS
  clear hP hD hS
  intro H locs hP hD hS
  refine lv_aload_n hx hb dX5_searches_0 rfl (lv_at hl 0 rfl) ?_
  refine lv_iload_n hx hb dX5_searches_1 rfl (lv_at hl 1 rfl) ?_
  refine va_put (D := D) (ci := 5) (v := .int (nI lf)) (ty := .int) (C := RX5) (T := TX5) (N := 16) hx hb hts hinX5 tyX5 tyX5_ok nmX5 hown hK hP hD hS 0 rfl rfl 10 (by decide) hw80 (fun _ h9 => h9) rfl (by decide +kernel) rfl rfl (Nat.le_of_ble_eq_true rfl) dX5_searches_2 (fun H locs hP hD hS => ?_)
  have hP : va_P D vwCl (MdW om xS xV xB xT xA xP xR cI thr mS mSv (nI q) mBf kLn mTl mAl mPl kBs (nI lf) kAt kWl mRd kRm hsh) H := hP
  have hD : va_D (wr_in (MdW om xS xV xB xT xA xP xR cI thr mS mSv (nI q) mBf kLn mTl mAl mPl kBs kLf0 kAt kWl mRd kRm hsh)) (MdW om xS xV xB xT xA xP xR cI thr mS mSv (nI q) mBf kLn mTl mAl mPl kBs (nI lf) kAt kWl mRd kRm hsh) := hD
  refine lv_aload_n hx hb dX5_searches_5 rfl (lv_at hl 0 rfl) ?_
  suffices j16 : ∀ ls : Array Slot, lv_has ls 3 [(0, .ref om), (1, .int (nI lf))] → wr_W p l e wsX5_searches ({ frames := 5, cells := 0, slots := 0, locals := 116 } : Room) s m [.ref om, .int (nI lf)] below meth c D (MdW om xS xV xB xT xA xP xR cI thr mS mSv (nI q) mBf kLn mTl mAl mPl kBs kLf0 kAt kWl mRd kRm hsh) (fun v w9 => v = some (.int (srM lf n mAl P n 0 (fun _ => 0) (if lf = 2 then 0 else -1, mPl)).1) ∧ ∃ tl9 : Nat → Int32, w9 = MdW om xS xV xB xT xA xP xR cI thr mS mSv (nI q) mBf kLn tl9 mAl ((srM lf n mAl P n 0 (fun _ => 0) (if lf = 2 then 0 else -1, mPl)).2) ((srM lf n mAl P n 0 (fun _ => 0) (if lf = 2 then 0 else -1, mPl)).1) (nI lf) kAt kWl mRd kRm hsh) H locs (F0 m 16 ls [.int (if lf = 2 then 0 else -1), .ref om]) by
    refine lv_iload_n hx hb dX5_searches_6 rfl (lv_at hl 1 rfl) ?_
    refine lv_iconst (v := 2) hx hb dX5_searches_7 (by decide) ?_
    refine rd_icmp_ne_n (a := lf) (b := 2) (tgt := 15) (by omega) (by omega) hx hb dX5_searches_8 (by decide) (fun c_8 => ?_) (fun c_8 => ?_)
    · refine lv_iconst (v := (-1)) hx hb dX5_searches_15 (by decide) ?_
      refine lv_asi (y := if lf = 2 then 0 else -1) (by simp [c_8]) ?_
      exact j16 ls (lv_sub hl [0, 1] rfl)
    · refine lv_iconst (v := 0) hx hb dX5_searches_11 (by decide) ?_
      refine lv_goto (tgt := 16) hx hb dX5_searches_12 (by decide) ?_
      refine lv_asi (y := if lf = 2 then 0 else -1) (by simp [c_8]) ?_
      exact j16 ls (lv_sub hl [0, 1] rfl)
  intro ls hl
  refine va_put (D := D) (ci := 5) (v := .int (if lf = 2 then 0 else -1)) (ty := .int) (C := RX5) (T := TX5) (N := 16) hx hb hts hinX5 tyX5 tyX5_ok nmX5 hown hK hP hD hS 0 rfl rfl 9 (by decide) hw83 (fun _ h9 => h9) rfl (by decide +kernel) rfl rfl (Nat.le_of_ble_eq_true rfl) dX5_searches_16 (fun H locs hP hD hS => ?_)
  have hP : va_P D vwCl (MdW om xS xV xB xT xA xP xR cI thr mS mSv (nI q) mBf kLn mTl mAl mPl (if lf = 2 then 0 else -1) (nI lf) kAt kWl mRd kRm hsh) H := hP
  have hD : va_D (wr_in (MdW om xS xV xB xT xA xP xR cI thr mS mSv (nI q) mBf kLn mTl mAl mPl kBs kLf0 kAt kWl mRd kRm hsh)) (MdW om xS xV xB xT xA xP xR cI thr mS mSv (nI q) mBf kLn mTl mAl mPl (if lf = 2 then 0 else -1) (nI lf) kAt kWl mRd kRm hsh) := hD
  refine lv_iconst (v := 0) hx hb dX5_searches_19 (by decide) ?_
  refine lv_istore_n (lv' := [(2, .int 0), (0, .ref om), (1, .int (nI lf))]) hx hb dX5_searches_20 rfl hl (by decide) rfl (fun ls hl => ?_)
  refine lv_aload_n hx hb dX5_searches_21 rfl (lv_at hl 1 rfl) ?_
  refine va_get (D := D) (ci := 5) (v := .ref xT) (C := RX5) (T := TX5) (N := 16) hx hb hts hinX5 hown hK hP 0 rfl rfl 6 (by decide) hw19 (fun _ h9 => h9) rfl dX5_searches_22 ?_
  refine lv_iconst (v := 0) hx hb dX5_searches_25 (by decide) ?_
  refine lv_iconst (v := (-1)) hx hb dX5_searches_26 (by decide) ?_
  refine wr_ast (q0 := 4) (t0 := 0) (j := 0) hx hb hK hP hD hS rfl rfl (rfl) (by omega) (by decide) dX5_searches_27 (fun H locs hP hD hS => ?_)
  obtain ⟨mTl_27, emTl_27⟩ : ∃ zz9 : Nat → Int32, zz9 = upd mTl 0 (-1) := ⟨_, rfl⟩
  rw [← emTl_27] at hP hD
  have hP : va_P D vwCl (MdW om xS xV xB xT xA xP xR cI thr mS mSv (nI q) mBf kLn mTl_27 mAl mPl (if lf = 2 then 0 else -1) (nI lf) kAt kWl mRd kRm hsh) H := hP
  have hD : va_D (wr_in (MdW om xS xV xB xT xA xP xR cI thr mS mSv (nI q) mBf kLn mTl mAl mPl kBs kLf0 kAt kWl mRd kRm hsh)) (MdW om xS xV xB xT xA xP xR cI thr mS mSv (nI q) mBf kLn mTl_27 mAl mPl (if lf = 2 then 0 else -1) (nI lf) kAt kWl mRd kRm hsh) := hD
  refine lv_aload_n hx hb dX5_searches_28 rfl (lv_at hl 1 rfl) ?_
  refine va_get (D := D) (ci := 5) (v := .ref xS) (C := RX5) (T := TX5) (N := 16) hx hb hts hinX5 hown hK hP 0 rfl rfl 1 (by decide) hw7 (fun _ h9 => h9) rfl dX5_searches_29 ?_
  refine lv_iconst (v := 0) hx hb dX5_searches_32 (by decide) ?_
  refine rd_ald (q0 := 1) (t0 := 0) (j := 0) (v := nI n) hx hb hK hP rfl rfl (rfl) (by omega) (by decide) (hQ.1) dX5_searches_33 ?_
  refine lv_if_ne (tgt := 46) hx hb dX5_searches_34 (by decide) (fun c_34 => ?_) (fun c_34 => ?_)
  · have c_34n := nI0_ne c_34
    obtain ⟨d0, hd0⟩ : ∃ d0, n = d0 + 1 := ⟨n - 1, by have := nI0_ne c_34; omega⟩
    suffices loop : ∀ d i, i + d + 1 = n → ∀ (Z : St2) (t : Nat → Nat), (∀ (tl : Nat → Int32) (H : Heap) (locs : List Loc) (ls : Array Slot), (∀ j, j < i → tl j = nI (t j)) → va_P D vwCl (MdW om xS xV xB xT xA xP xR cI thr mS mSv (nI q) mBf kLn tl mAl Z.2 Z.1 (nI lf) kAt kWl mRd kRm hsh) H → va_D (wr_in (MdW om xS xV xB xT xA xP xR cI thr mS mSv (nI q) mBf kLn mTl mAl mPl kBs kLf0 kAt kWl mRd kRm hsh)) (MdW om xS xV xB xT xA xP xR cI thr mS mSv (nI q) mBf kLn tl mAl Z.2 Z.1 (nI lf) kAt kWl mRd kRm hsh) → va_S (wr_in (MdW om xS xV xB xT xA xP xR cI thr mS mSv (nI q) mBf kLn mTl mAl mPl kBs kLf0 kAt kWl mRd kRm hsh)) s.heap H locs → lv_has ls 3 [(0, .ref om), (1, .int (nI lf)), (2, .int (nI i + (-1)))] → wr_W p l e wsX5_searches ({ frames := 5, cells := 0, slots := 0, locals := 116 } : Room) s m [.ref om, .int (nI lf)] below meth c D (MdW om xS xV xB xT xA xP xR cI thr mS mSv (nI q) mBf kLn mTl mAl mPl kBs kLf0 kAt kWl mRd kRm hsh) (fun v w9 => v = some (.int (srM lf n mAl P n 0 (fun _ => 0) (if lf = 2 then 0 else -1, mPl)).1) ∧ ∃ tl9 : Nat → Int32, w9 = MdW om xS xV xB xT xA xP xR cI thr mS mSv (nI q) mBf kLn tl9 mAl ((srM lf n mAl P n 0 (fun _ => 0) (if lf = 2 then 0 else -1, mPl)).2) ((srM lf n mAl P n 0 (fun _ => 0) (if lf = 2 then 0 else -1, mPl)).1) (nI lf) kAt kWl mRd kRm hsh) H locs (F0 m 46 ls [])) → ∀ r ch, ch + r = 5 → ∀ (tl : Nat → Int32) (bs : Int32) (pl : Nat → Int32) (H : Heap) (locs : List Loc) (ls : Array Slot), (∀ j, j < i → tl j = nI (t j)) → (∀ j, j < i → t j ≤ 4) → tl i = nI ch + (-1) → srL (fun t' z' => srM lf n mAl P d (i + 1) t' z') lf n mAl P i r ch t (bs, pl) = Z → va_P D vwCl (MdW om xS xV xB xT xA xP xR cI thr mS mSv (nI q) mBf kLn tl mAl pl bs (nI lf) kAt kWl mRd kRm hsh) H → va_D (wr_in (MdW om xS xV xB xT xA xP xR cI thr mS mSv (nI q) mBf kLn mTl mAl mPl kBs kLf0 kAt kWl mRd kRm hsh)) (MdW om xS xV xB xT xA xP xR cI thr mS mSv (nI q) mBf kLn tl mAl pl bs (nI lf) kAt kWl mRd kRm hsh) → va_S (wr_in (MdW om xS xV xB xT xA xP xR cI thr mS mSv (nI q) mBf kLn mTl mAl mPl kBs kLf0 kAt kWl mRd kRm hsh)) s.heap H locs → lv_has ls 3 [(0, .ref om), (1, .int (nI lf)), (2, .int (nI i))] → wr_W p l e wsX5_searches ({ frames := 5, cells := 0, slots := 0, locals := 116 } : Room) s m [.ref om, .int (nI lf)] below meth c D (MdW om xS xV xB xT xA xP xR cI thr mS mSv (nI q) mBf kLn mTl mAl mPl kBs kLf0 kAt kWl mRd kRm hsh) (fun v w9 => v = some (.int (srM lf n mAl P n 0 (fun _ => 0) (if lf = 2 then 0 else -1, mPl)).1) ∧ ∃ tl9 : Nat → Int32, w9 = MdW om xS xV xB xT xA xP xR cI thr mS mSv (nI q) mBf kLn tl9 mAl ((srM lf n mAl P n 0 (fun _ => 0) (if lf = 2 then 0 else -1, mPl)).2) ((srM lf n mAl P n 0 (fun _ => 0) (if lf = 2 then 0 else -1, mPl)).1) (nI lf) kAt kWl mRd kRm hsh) H locs (F0 m 46 ls []) from ?_
    · refine loop d0 0 (by omega) (srM lf n mAl P n 0 (fun _ => 0) (if lf = 2 then 0 else -1, mPl)) (fun _ => 0) (fun tl H locs ls _ hP hD hS hl => ?_) 5 0 rfl _ _ _ H locs ls (fun j hj => absurd hj (Nat.not_lt_zero j)) (fun j hj => absurd hj (Nat.not_lt_zero j)) (by rw [emTl_27]; rfl) (by rw [hd0]; rfl) hP hD hS (lv_sub hl [1, 2, 0] rfl)
      refine lv_iload_n hx hb dX5_searches_46 rfl (lv_at hl 2 rfl) ?_
      refine lv_if_lt (tgt := 126) hx hb dX5_searches_47 (by decide) (fun c_47 => ?_) (fun c_47 => ?_)
      rotate_left
      · exact absurd (by decide) c_47
      refine lv_aload_n hx hb dX5_searches_126 rfl (lv_at hl 0 rfl) ?_
      refine va_get (D := D) (ci := 5) (v := .int ((srM lf n mAl P n 0 (fun _ => 0) (if lf = 2 then 0 else -1, mPl)).1)) (C := RX5) (T := TX5) (N := 16) hx hb hts hinX5 hown hK hP 0 rfl rfl 9 (by decide) hw83 (fun _ h9 => h9) rfl dX5_searches_127 ?_
      exact wr_iret hx hb hr hlocks hP hS rfl dX5_searches_130 (by exact ⟨rfl, tl, rfl⟩)
    intro d
    induction d with
    | zero =>
      intro i hid Z t hcont r
      induction r with
      | zero =>
        intro ch hcr tl bs pl H locs ls ht ht4 htl hz hP hD hS hl
        refine lv_iload_n hx hb dX5_searches_46 rfl (lv_at hl 2 rfl) ?_
        refine lv_if_lt (tgt := 126) hx hb dX5_searches_47 (by decide) (fun c_47 => ?_) (fun c_47 => ?_)
        · exact absurd c_47 (nI_pos (by omega))
        refine lv_aload_n hx hb dX5_searches_50 rfl (lv_at hl 0 rfl) ?_
        refine va_get (D := D) (ci := 5) (v := .ref xT) (C := RX5) (T := TX5) (N := 16) hx hb hts hinX5 hown hK hP 0 rfl rfl 6 (by decide) hw19 (fun _ h9 => h9) rfl dX5_searches_51 ?_
        refine lv_iload_n hx hb dX5_searches_54 rfl (lv_at hl 2 rfl) ?_
        refine lv_dup2_11 hx hb dX5_searches_55 rfl rfl ?_
        refine rd_ald (q0 := 4) (t0 := 0) (j := i) (v := nI ch + (-1)) hx hb hK hP rfl rfl (rfl) (by omega) (by decide) (htl) dX5_searches_56 ?_
        refine lv_iconst (v := 1) hx hb dX5_searches_57 (by decide) ?_
        refine lv_iadd hx hb dX5_searches_58 ?_
        refine lv_asi (y := nI ch) (m1p1 ch) ?_
        refine wr_ast (q0 := 4) (t0 := 0) (j := i) hx hb hK hP hD hS rfl rfl (rfl) (by omega) (by decide) dX5_searches_59 (fun H locs hP hD hS => ?_)
        obtain ⟨mTl_59, emTl_59⟩ : ∃ zz9 : Nat → Int32, zz9 = upd tl i (nI ch) := ⟨_, rfl⟩
        rw [← emTl_59] at hP hD
        have hP : va_P D vwCl (MdW om xS xV xB xT xA xP xR cI thr mS mSv (nI q) mBf kLn mTl_59 mAl pl bs (nI lf) kAt kWl mRd kRm hsh) H := hP
        have hD : va_D (wr_in (MdW om xS xV xB xT xA xP xR cI thr mS mSv (nI q) mBf kLn mTl mAl mPl kBs kLf0 kAt kWl mRd kRm hsh)) (MdW om xS xV xB xT xA xP xR cI thr mS mSv (nI q) mBf kLn mTl_59 mAl pl bs (nI lf) kAt kWl mRd kRm hsh) := hD
        refine lv_aload_n hx hb dX5_searches_60 rfl (lv_at hl 0 rfl) ?_
        refine va_get (D := D) (ci := 5) (v := .ref xT) (C := RX5) (T := TX5) (N := 16) hx hb hts hinX5 hown hK hP 0 rfl rfl 6 (by decide) hw19 (fun _ h9 => h9) rfl dX5_searches_61 ?_
        refine lv_iload_n hx hb dX5_searches_64 rfl (lv_at hl 2 rfl) ?_
        refine rd_ald (q0 := 4) (t0 := 0) (j := i) (v := nI ch) hx hb hK hP rfl rfl (rfl) (by omega) (by decide) (upN_self emTl_59) dX5_searches_65 ?_
        refine lv_iconst (v := 4) hx hb dX5_searches_66 (by decide) ?_
        refine rd_icmp_le_n (a := ch) (b := 4) (tgt := 76) (by omega) (by omega) hx hb dX5_searches_67 (by decide) (fun c_67 => ?_) (fun c_67 => ?_)
        · exact absurd c_67 (by omega)
        refine lv_iinc (v := nI i + (-1)) (lv' := [(2, .int (nI i + (-1))), (0, .ref om), (1, .int (nI lf))]) hx hb dX5_searches_70 hl (k := 2) rfl (rfl) (by decide) rfl (fun ls hl => ?_)
        refine lv_goto (tgt := 46) hx hb dX5_searches_73 (by decide) ?_
        have hz9 : (bs, pl) = Z := hz
        subst hz9
        exact hcont _ H locs ls (upN_next ht emTl_59) hP hD hS (lv_sub hl [1, 2, 0] rfl)
      | succ r ihr =>
        intro ch hcr tl bs pl H locs ls ht ht4 htl hz hP hD hS hl
        refine lv_iload_n hx hb dX5_searches_46 rfl (lv_at hl 2 rfl) ?_
        refine lv_if_lt (tgt := 126) hx hb dX5_searches_47 (by decide) (fun c_47 => ?_) (fun c_47 => ?_)
        · exact absurd c_47 (nI_pos (by omega))
        refine lv_aload_n hx hb dX5_searches_50 rfl (lv_at hl 0 rfl) ?_
        refine va_get (D := D) (ci := 5) (v := .ref xT) (C := RX5) (T := TX5) (N := 16) hx hb hts hinX5 hown hK hP 0 rfl rfl 6 (by decide) hw19 (fun _ h9 => h9) rfl dX5_searches_51 ?_
        refine lv_iload_n hx hb dX5_searches_54 rfl (lv_at hl 2 rfl) ?_
        refine lv_dup2_11 hx hb dX5_searches_55 rfl rfl ?_
        refine rd_ald (q0 := 4) (t0 := 0) (j := i) (v := nI ch + (-1)) hx hb hK hP rfl rfl (rfl) (by omega) (by decide) (htl) dX5_searches_56 ?_
        refine lv_iconst (v := 1) hx hb dX5_searches_57 (by decide) ?_
        refine lv_iadd hx hb dX5_searches_58 ?_
        refine lv_asi (y := nI ch) (m1p1 ch) ?_
        refine wr_ast (q0 := 4) (t0 := 0) (j := i) hx hb hK hP hD hS rfl rfl (rfl) (by omega) (by decide) dX5_searches_59 (fun H locs hP hD hS => ?_)
        obtain ⟨mTl_59, emTl_59⟩ : ∃ zz9 : Nat → Int32, zz9 = upd tl i (nI ch) := ⟨_, rfl⟩
        rw [← emTl_59] at hP hD
        have hP : va_P D vwCl (MdW om xS xV xB xT xA xP xR cI thr mS mSv (nI q) mBf kLn mTl_59 mAl pl bs (nI lf) kAt kWl mRd kRm hsh) H := hP
        have hD : va_D (wr_in (MdW om xS xV xB xT xA xP xR cI thr mS mSv (nI q) mBf kLn mTl mAl mPl kBs kLf0 kAt kWl mRd kRm hsh)) (MdW om xS xV xB xT xA xP xR cI thr mS mSv (nI q) mBf kLn mTl_59 mAl pl bs (nI lf) kAt kWl mRd kRm hsh) := hD
        refine lv_aload_n hx hb dX5_searches_60 rfl (lv_at hl 0 rfl) ?_
        refine va_get (D := D) (ci := 5) (v := .ref xT) (C := RX5) (T := TX5) (N := 16) hx hb hts hinX5 hown hK hP 0 rfl rfl 6 (by decide) hw19 (fun _ h9 => h9) rfl dX5_searches_61 ?_
        refine lv_iload_n hx hb dX5_searches_64 rfl (lv_at hl 2 rfl) ?_
        refine rd_ald (q0 := 4) (t0 := 0) (j := i) (v := nI ch) hx hb hK hP rfl rfl (rfl) (by omega) (by decide) (upN_self emTl_59) dX5_searches_65 ?_
        refine lv_iconst (v := 4) hx hb dX5_searches_66 (by decide) ?_
        refine rd_icmp_le_n (a := ch) (b := 4) (tgt := 76) (by omega) (by omega) hx hb dX5_searches_67 (by decide) (fun c_67 => ?_) (fun c_67 => ?_)
        rotate_left
        · exact absurd c_67 (by omega)
        refine lv_aload_n hx hb dX5_searches_76 rfl (lv_at hl 0 rfl) ?_
        refine lv_iload_n hx hb dX5_searches_77 rfl (lv_at hl 2 rfl) ?_
        refine wr_callV (As := [.int (nI i)]) (rest := []) ⟨hx, hb, hml, hown, hts⟩ (c_X5_fits (P := P) l D (q := q) hq6 hn8 hQ hbk (lf := lf) hlf (t := (updN t i ch)) (i := i) (by omega) (upN_ok ht emTl_59) (upN_4 ht4 (by omega))) (cwV 1 hts gX5_searches_X5_fits rfl rfl rfl (by decide +kernel) ⟨by decide, by decide⟩) hK hN hZ hP hD hS [0, 1, 2, 3, 4, 5, 6, 7] [0] rfl (by decide) rfl (q0 := 0) rfl rfl rfl hl.1 rfl (Nat.le_of_ble_eq_true rfl) ⟨by decide, by decide⟩ dX5_searches_78 (fun v9 w9 H locs hp9 hP hD hS => ?_)
        obtain ⟨rfl, rfl⟩ := hp9
        have hP : va_P D vwCl (MdW om xS xV xB xT xA xP xR cI thr mS mSv (nI q) mBf kLn mTl_59 mAl pl bs (nI lf) kAt kWl mRd kRm hsh) H := hP
        have hD : va_D (wr_in (MdW om xS xV xB xT xA xP xR cI thr mS mSv (nI q) mBf kLn mTl mAl mPl kBs kLf0 kAt kWl mRd kRm hsh)) (MdW om xS xV xB xT xA xP xR cI thr mS mSv (nI q) mBf kLn mTl_59 mAl pl bs (nI lf) kAt kWl mRd kRm hsh) := hD
        refine W.eq (g2 := F0 m 81 ls [.int (bI (mFit mAl P (updN t i ch) i))]) rfl ?_
        refine rd_ifeq_b (tgt := 46) hx hb dX5_searches_81 (by decide) (fun c_81 => ?_) (fun c_81 => ?_)
        · exact ihr (ch + 1) (by omega) _ bs pl H locs ls (upN_pre (upN_ok ht emTl_59)).1 ht4 (upN_pre (upN_ok ht emTl_59)).2 (by rw [← hz, srL, if_neg (by simp [c_81])]) hP hD hS (lv_sub hl [0, 1, 2] rfl)
        · refine lv_aload_n hx hb dX5_searches_84 rfl (lv_at hl 0 rfl) ?_
          refine lv_iload_n hx hb dX5_searches_85 rfl (lv_at hl 2 rfl) ?_
          refine lv_iconst (v := 1) hx hb dX5_searches_86 (by decide) ?_
          refine lv_iadd hx hb dX5_searches_87 ?_
          refine lv_asi (y := nI (i + 1)) (nI_add i 1) ?_
          refine wr_callV (As := [.int (nI (i + 1))]) (rest := []) ⟨hx, hb, hml, hown, hts⟩ (c_X5_canBe (P := P) l D (q := q) hq6 hn8 hQ hbk (lf := lf) hlf (t := (updN t i ch)) (u := i + 1) (by omega) (upN_ok ht emTl_59) (upN_4 ht4 (by omega))) (cwV 1 hts gX5_searches_X5_canBe rfl rfl rfl (by decide +kernel) ⟨by decide, by decide⟩) hK hN hZ hP hD hS [0, 1, 2, 3, 4, 5, 6, 7] [0] rfl (by decide) rfl (q0 := 0) rfl rfl rfl hl.1 rfl (Nat.le_of_ble_eq_true rfl) ⟨by decide, by decide⟩ dX5_searches_88 (fun v9 w9 H locs hp9 hP hD hS => ?_)
          obtain ⟨rfl, rfl⟩ := hp9
          have hP : va_P D vwCl (MdW om xS xV xB xT xA xP xR cI thr mS mSv (nI q) mBf kLn mTl_59 mAl pl bs (nI lf) kAt kWl mRd kRm hsh) H := hP
          have hD : va_D (wr_in (MdW om xS xV xB xT xA xP xR cI thr mS mSv (nI q) mBf kLn mTl mAl mPl kBs kLf0 kAt kWl mRd kRm hsh)) (MdW om xS xV xB xT xA xP xR cI thr mS mSv (nI q) mBf kLn mTl_59 mAl pl bs (nI lf) kAt kWl mRd kRm hsh) := hD
          refine W.eq (g2 := F0 m 91 ls [.int (bI (mCan lf n P (updN t i ch) bs (i + 1)))]) rfl ?_
          refine rd_ifeq_b (tgt := 46) hx hb dX5_searches_91 (by decide) (fun c_91 => ?_) (fun c_91 => ?_)
          · exact ihr (ch + 1) (by omega) _ bs pl H locs ls (upN_pre (upN_ok ht emTl_59)).1 ht4 (upN_pre (upN_ok ht emTl_59)).2 (by rw [← hz, srL, if_neg (by simp [c_81, c_91])]) hP hD hS (lv_sub hl [0, 1, 2] rfl)
          · refine lv_iload_n hx hb dX5_searches_94 rfl (lv_at hl 2 rfl) ?_
            refine lv_aload_n hx hb dX5_searches_95 rfl (lv_at hl 0 rfl) ?_
            refine va_get (D := D) (ci := 5) (v := .ref xS) (C := RX5) (T := TX5) (N := 16) hx hb hts hinX5 hown hK hP 0 rfl rfl 1 (by decide) hw7 (fun _ h9 => h9) rfl dX5_searches_96 ?_
            refine lv_iconst (v := 0) hx hb dX5_searches_99 (by decide) ?_
            refine rd_ald (q0 := 1) (t0 := 0) (j := 0) (v := nI (i + 0 + 1)) hx hb hK hP rfl rfl (rfl) (by omega) (by decide) (by rw [hQ.1, ← hid]) dX5_searches_100 ?_
            refine lv_iconst (v := 1) hx hb dX5_searches_101 (by decide) ?_
            refine lv_isub hx hb dX5_searches_102 ?_
            refine lv_asi (y := nI (i + 0)) (nI_pred _) ?_
            refine rd_icmp_ne_n (a := i) (b := i + 0) (tgt := 113) (by omega) (by omega) hx hb dX5_searches_103 (by decide) (fun c_103 => ?_) (fun c_103 => ?_)
            · exact absurd c_103 (by omega)
            refine lv_aload_n hx hb dX5_searches_106 rfl (lv_at hl 0 rfl) ?_
            refine wr_callV (As := []) (rest := []) ⟨hx, hb, hml, hown, hts⟩ (c_X5_looksAt (P := P) l D (q := q) hq6 hn8 hQ hbk (lf := lf) hlf (t := (updN t i ch)) (fun j hj => (upN_ok ht emTl_59) j (by omega)) (fun j hj => (upN_4 ht4 (by omega)) j (by omega))) (cwV 0 hts gX5_searches_X5_looksAt rfl rfl rfl (by decide +kernel) ⟨by decide, by decide⟩) hK hN hZ hP hD hS [0, 1, 2, 3, 4, 5, 6, 7] [0] rfl (by decide) rfl (q0 := 0) rfl rfl rfl hl.1 rfl (Nat.le_of_ble_eq_true rfl) ⟨by decide, by decide⟩ dX5_searches_107 (fun v9 w9 H locs hp9 hP hD hS => ?_)
            obtain ⟨rfl, rfl⟩ := hp9
            have hP : va_P D vwCl (MdW om xS xV xB xT xA xP xR cI thr mS mSv (nI q) mBf kLn mTl_59 mAl ((mLk lf n P (updN t i ch) (bs, pl)).2) ((mLk lf n P (updN t i ch) (bs, pl)).1) (nI lf) kAt kWl mRd kRm hsh) H := hP
            have hD : va_D (wr_in (MdW om xS xV xB xT xA xP xR cI thr mS mSv (nI q) mBf kLn mTl mAl mPl kBs kLf0 kAt kWl mRd kRm hsh)) (MdW om xS xV xB xT xA xP xR cI thr mS mSv (nI q) mBf kLn mTl_59 mAl ((mLk lf n P (updN t i ch) (bs, pl)).2) ((mLk lf n P (updN t i ch) (bs, pl)).1) (nI lf) kAt kWl mRd kRm hsh) := hD
            refine W.eq (g2 := F0 m 110 ls []) rfl ?_
            refine lv_goto (tgt := 46) hx hb dX5_searches_110 (by decide) ?_
            exact ihr (ch + 1) (by omega) _ ((mLk lf n P (updN t i ch) (bs, pl)).1) ((mLk lf n P (updN t i ch) (bs, pl)).2) H locs ls (upN_pre (upN_ok ht emTl_59)).1 ht4 (upN_pre (upN_ok ht emTl_59)).2 (by rw [← hz, srL, if_pos (by simp [c_81, c_91])]; rfl) hP hD hS (lv_sub hl [0, 1, 2] rfl)
    | succ d ihd =>
      intro i hid Z t hcont r
      induction r with
      | zero =>
        intro ch hcr tl bs pl H locs ls ht ht4 htl hz hP hD hS hl
        refine lv_iload_n hx hb dX5_searches_46 rfl (lv_at hl 2 rfl) ?_
        refine lv_if_lt (tgt := 126) hx hb dX5_searches_47 (by decide) (fun c_47 => ?_) (fun c_47 => ?_)
        · exact absurd c_47 (nI_pos (by omega))
        refine lv_aload_n hx hb dX5_searches_50 rfl (lv_at hl 0 rfl) ?_
        refine va_get (D := D) (ci := 5) (v := .ref xT) (C := RX5) (T := TX5) (N := 16) hx hb hts hinX5 hown hK hP 0 rfl rfl 6 (by decide) hw19 (fun _ h9 => h9) rfl dX5_searches_51 ?_
        refine lv_iload_n hx hb dX5_searches_54 rfl (lv_at hl 2 rfl) ?_
        refine lv_dup2_11 hx hb dX5_searches_55 rfl rfl ?_
        refine rd_ald (q0 := 4) (t0 := 0) (j := i) (v := nI ch + (-1)) hx hb hK hP rfl rfl (rfl) (by omega) (by decide) (htl) dX5_searches_56 ?_
        refine lv_iconst (v := 1) hx hb dX5_searches_57 (by decide) ?_
        refine lv_iadd hx hb dX5_searches_58 ?_
        refine lv_asi (y := nI ch) (m1p1 ch) ?_
        refine wr_ast (q0 := 4) (t0 := 0) (j := i) hx hb hK hP hD hS rfl rfl (rfl) (by omega) (by decide) dX5_searches_59 (fun H locs hP hD hS => ?_)
        obtain ⟨mTl_59, emTl_59⟩ : ∃ zz9 : Nat → Int32, zz9 = upd tl i (nI ch) := ⟨_, rfl⟩
        rw [← emTl_59] at hP hD
        have hP : va_P D vwCl (MdW om xS xV xB xT xA xP xR cI thr mS mSv (nI q) mBf kLn mTl_59 mAl pl bs (nI lf) kAt kWl mRd kRm hsh) H := hP
        have hD : va_D (wr_in (MdW om xS xV xB xT xA xP xR cI thr mS mSv (nI q) mBf kLn mTl mAl mPl kBs kLf0 kAt kWl mRd kRm hsh)) (MdW om xS xV xB xT xA xP xR cI thr mS mSv (nI q) mBf kLn mTl_59 mAl pl bs (nI lf) kAt kWl mRd kRm hsh) := hD
        refine lv_aload_n hx hb dX5_searches_60 rfl (lv_at hl 0 rfl) ?_
        refine va_get (D := D) (ci := 5) (v := .ref xT) (C := RX5) (T := TX5) (N := 16) hx hb hts hinX5 hown hK hP 0 rfl rfl 6 (by decide) hw19 (fun _ h9 => h9) rfl dX5_searches_61 ?_
        refine lv_iload_n hx hb dX5_searches_64 rfl (lv_at hl 2 rfl) ?_
        refine rd_ald (q0 := 4) (t0 := 0) (j := i) (v := nI ch) hx hb hK hP rfl rfl (rfl) (by omega) (by decide) (upN_self emTl_59) dX5_searches_65 ?_
        refine lv_iconst (v := 4) hx hb dX5_searches_66 (by decide) ?_
        refine rd_icmp_le_n (a := ch) (b := 4) (tgt := 76) (by omega) (by omega) hx hb dX5_searches_67 (by decide) (fun c_67 => ?_) (fun c_67 => ?_)
        · exact absurd c_67 (by omega)
        refine lv_iinc (v := nI i + (-1)) (lv' := [(2, .int (nI i + (-1))), (0, .ref om), (1, .int (nI lf))]) hx hb dX5_searches_70 hl (k := 2) rfl (rfl) (by decide) rfl (fun ls hl => ?_)
        refine lv_goto (tgt := 46) hx hb dX5_searches_73 (by decide) ?_
        have hz9 : (bs, pl) = Z := hz
        subst hz9
        exact hcont _ H locs ls (upN_next ht emTl_59) hP hD hS (lv_sub hl [1, 2, 0] rfl)
      | succ r ihr =>
        intro ch hcr tl bs pl H locs ls ht ht4 htl hz hP hD hS hl
        refine lv_iload_n hx hb dX5_searches_46 rfl (lv_at hl 2 rfl) ?_
        refine lv_if_lt (tgt := 126) hx hb dX5_searches_47 (by decide) (fun c_47 => ?_) (fun c_47 => ?_)
        · exact absurd c_47 (nI_pos (by omega))
        refine lv_aload_n hx hb dX5_searches_50 rfl (lv_at hl 0 rfl) ?_
        refine va_get (D := D) (ci := 5) (v := .ref xT) (C := RX5) (T := TX5) (N := 16) hx hb hts hinX5 hown hK hP 0 rfl rfl 6 (by decide) hw19 (fun _ h9 => h9) rfl dX5_searches_51 ?_
        refine lv_iload_n hx hb dX5_searches_54 rfl (lv_at hl 2 rfl) ?_
        refine lv_dup2_11 hx hb dX5_searches_55 rfl rfl ?_
        refine rd_ald (q0 := 4) (t0 := 0) (j := i) (v := nI ch + (-1)) hx hb hK hP rfl rfl (rfl) (by omega) (by decide) (htl) dX5_searches_56 ?_
        refine lv_iconst (v := 1) hx hb dX5_searches_57 (by decide) ?_
        refine lv_iadd hx hb dX5_searches_58 ?_
        refine lv_asi (y := nI ch) (m1p1 ch) ?_
        refine wr_ast (q0 := 4) (t0 := 0) (j := i) hx hb hK hP hD hS rfl rfl (rfl) (by omega) (by decide) dX5_searches_59 (fun H locs hP hD hS => ?_)
        obtain ⟨mTl_59, emTl_59⟩ : ∃ zz9 : Nat → Int32, zz9 = upd tl i (nI ch) := ⟨_, rfl⟩
        rw [← emTl_59] at hP hD
        have hP : va_P D vwCl (MdW om xS xV xB xT xA xP xR cI thr mS mSv (nI q) mBf kLn mTl_59 mAl pl bs (nI lf) kAt kWl mRd kRm hsh) H := hP
        have hD : va_D (wr_in (MdW om xS xV xB xT xA xP xR cI thr mS mSv (nI q) mBf kLn mTl mAl mPl kBs kLf0 kAt kWl mRd kRm hsh)) (MdW om xS xV xB xT xA xP xR cI thr mS mSv (nI q) mBf kLn mTl_59 mAl pl bs (nI lf) kAt kWl mRd kRm hsh) := hD
        refine lv_aload_n hx hb dX5_searches_60 rfl (lv_at hl 0 rfl) ?_
        refine va_get (D := D) (ci := 5) (v := .ref xT) (C := RX5) (T := TX5) (N := 16) hx hb hts hinX5 hown hK hP 0 rfl rfl 6 (by decide) hw19 (fun _ h9 => h9) rfl dX5_searches_61 ?_
        refine lv_iload_n hx hb dX5_searches_64 rfl (lv_at hl 2 rfl) ?_
        refine rd_ald (q0 := 4) (t0 := 0) (j := i) (v := nI ch) hx hb hK hP rfl rfl (rfl) (by omega) (by decide) (upN_self emTl_59) dX5_searches_65 ?_
        refine lv_iconst (v := 4) hx hb dX5_searches_66 (by decide) ?_
        refine rd_icmp_le_n (a := ch) (b := 4) (tgt := 76) (by omega) (by omega) hx hb dX5_searches_67 (by decide) (fun c_67 => ?_) (fun c_67 => ?_)
        rotate_left
        · exact absurd c_67 (by omega)
        refine lv_aload_n hx hb dX5_searches_76 rfl (lv_at hl 0 rfl) ?_
        refine lv_iload_n hx hb dX5_searches_77 rfl (lv_at hl 2 rfl) ?_
        refine wr_callV (As := [.int (nI i)]) (rest := []) ⟨hx, hb, hml, hown, hts⟩ (c_X5_fits (P := P) l D (q := q) hq6 hn8 hQ hbk (lf := lf) hlf (t := (updN t i ch)) (i := i) (by omega) (upN_ok ht emTl_59) (upN_4 ht4 (by omega))) (cwV 1 hts gX5_searches_X5_fits rfl rfl rfl (by decide +kernel) ⟨by decide, by decide⟩) hK hN hZ hP hD hS [0, 1, 2, 3, 4, 5, 6, 7] [0] rfl (by decide) rfl (q0 := 0) rfl rfl rfl hl.1 rfl (Nat.le_of_ble_eq_true rfl) ⟨by decide, by decide⟩ dX5_searches_78 (fun v9 w9 H locs hp9 hP hD hS => ?_)
        obtain ⟨rfl, rfl⟩ := hp9
        have hP : va_P D vwCl (MdW om xS xV xB xT xA xP xR cI thr mS mSv (nI q) mBf kLn mTl_59 mAl pl bs (nI lf) kAt kWl mRd kRm hsh) H := hP
        have hD : va_D (wr_in (MdW om xS xV xB xT xA xP xR cI thr mS mSv (nI q) mBf kLn mTl mAl mPl kBs kLf0 kAt kWl mRd kRm hsh)) (MdW om xS xV xB xT xA xP xR cI thr mS mSv (nI q) mBf kLn mTl_59 mAl pl bs (nI lf) kAt kWl mRd kRm hsh) := hD
        refine W.eq (g2 := F0 m 81 ls [.int (bI (mFit mAl P (updN t i ch) i))]) rfl ?_
        refine rd_ifeq_b (tgt := 46) hx hb dX5_searches_81 (by decide) (fun c_81 => ?_) (fun c_81 => ?_)
        · exact ihr (ch + 1) (by omega) _ bs pl H locs ls (upN_pre (upN_ok ht emTl_59)).1 ht4 (upN_pre (upN_ok ht emTl_59)).2 (by rw [← hz, srL, if_neg (by simp [c_81])]) hP hD hS (lv_sub hl [0, 1, 2] rfl)
        · refine lv_aload_n hx hb dX5_searches_84 rfl (lv_at hl 0 rfl) ?_
          refine lv_iload_n hx hb dX5_searches_85 rfl (lv_at hl 2 rfl) ?_
          refine lv_iconst (v := 1) hx hb dX5_searches_86 (by decide) ?_
          refine lv_iadd hx hb dX5_searches_87 ?_
          refine lv_asi (y := nI (i + 1)) (nI_add i 1) ?_
          refine wr_callV (As := [.int (nI (i + 1))]) (rest := []) ⟨hx, hb, hml, hown, hts⟩ (c_X5_canBe (P := P) l D (q := q) hq6 hn8 hQ hbk (lf := lf) hlf (t := (updN t i ch)) (u := i + 1) (by omega) (upN_ok ht emTl_59) (upN_4 ht4 (by omega))) (cwV 1 hts gX5_searches_X5_canBe rfl rfl rfl (by decide +kernel) ⟨by decide, by decide⟩) hK hN hZ hP hD hS [0, 1, 2, 3, 4, 5, 6, 7] [0] rfl (by decide) rfl (q0 := 0) rfl rfl rfl hl.1 rfl (Nat.le_of_ble_eq_true rfl) ⟨by decide, by decide⟩ dX5_searches_88 (fun v9 w9 H locs hp9 hP hD hS => ?_)
          obtain ⟨rfl, rfl⟩ := hp9
          have hP : va_P D vwCl (MdW om xS xV xB xT xA xP xR cI thr mS mSv (nI q) mBf kLn mTl_59 mAl pl bs (nI lf) kAt kWl mRd kRm hsh) H := hP
          have hD : va_D (wr_in (MdW om xS xV xB xT xA xP xR cI thr mS mSv (nI q) mBf kLn mTl mAl mPl kBs kLf0 kAt kWl mRd kRm hsh)) (MdW om xS xV xB xT xA xP xR cI thr mS mSv (nI q) mBf kLn mTl_59 mAl pl bs (nI lf) kAt kWl mRd kRm hsh) := hD
          refine W.eq (g2 := F0 m 91 ls [.int (bI (mCan lf n P (updN t i ch) bs (i + 1)))]) rfl ?_
          refine rd_ifeq_b (tgt := 46) hx hb dX5_searches_91 (by decide) (fun c_91 => ?_) (fun c_91 => ?_)
          · exact ihr (ch + 1) (by omega) _ bs pl H locs ls (upN_pre (upN_ok ht emTl_59)).1 ht4 (upN_pre (upN_ok ht emTl_59)).2 (by rw [← hz, srL, if_neg (by simp [c_81, c_91])]) hP hD hS (lv_sub hl [0, 1, 2] rfl)
          · refine lv_iload_n hx hb dX5_searches_94 rfl (lv_at hl 2 rfl) ?_
            refine lv_aload_n hx hb dX5_searches_95 rfl (lv_at hl 0 rfl) ?_
            refine va_get (D := D) (ci := 5) (v := .ref xS) (C := RX5) (T := TX5) (N := 16) hx hb hts hinX5 hown hK hP 0 rfl rfl 1 (by decide) hw7 (fun _ h9 => h9) rfl dX5_searches_96 ?_
            refine lv_iconst (v := 0) hx hb dX5_searches_99 (by decide) ?_
            refine rd_ald (q0 := 1) (t0 := 0) (j := 0) (v := nI (i + (d + 1) + 1)) hx hb hK hP rfl rfl (rfl) (by omega) (by decide) (by rw [hQ.1, ← hid]) dX5_searches_100 ?_
            refine lv_iconst (v := 1) hx hb dX5_searches_101 (by decide) ?_
            refine lv_isub hx hb dX5_searches_102 ?_
            refine lv_asi (y := nI (i + (d + 1))) (nI_pred _) ?_
            refine rd_icmp_ne_n (a := i) (b := i + (d + 1)) (tgt := 113) (by omega) (by omega) hx hb dX5_searches_103 (by decide) (fun c_103 => ?_) (fun c_103 => ?_)
            rotate_left
            · exact absurd c_103 (by omega)
            refine lv_iinc (v := nI (i + 1)) (lv' := [(2, .int (nI (i + 1))), (0, .ref om), (1, .int (nI lf))]) hx hb dX5_searches_113 hl (k := 2) rfl (nI_add i 1) (by decide) rfl (fun ls hl => ?_)
            refine lv_aload_n hx hb dX5_searches_116 rfl (lv_at hl 1 rfl) ?_
            refine va_get (D := D) (ci := 5) (v := .ref xT) (C := RX5) (T := TX5) (N := 16) hx hb hts hinX5 hown hK hP 0 rfl rfl 6 (by decide) hw19 (fun _ h9 => h9) rfl dX5_searches_117 ?_
            refine lv_iload_n hx hb dX5_searches_120 rfl (lv_at hl 0 rfl) ?_
            refine lv_iconst (v := (-1)) hx hb dX5_searches_121 (by decide) ?_
            refine wr_ast (q0 := 4) (t0 := 0) (j := i + 1) hx hb hK hP hD hS rfl rfl (rfl) (by omega) (by decide) dX5_searches_122 (fun H locs hP hD hS => ?_)
            obtain ⟨mTl_122, emTl_122⟩ : ∃ zz9 : Nat → Int32, zz9 = upd mTl_59 (i + 1) (-1) := ⟨_, rfl⟩
            rw [← emTl_122] at hP hD
            have hP : va_P D vwCl (MdW om xS xV xB xT xA xP xR cI thr mS mSv (nI q) mBf kLn mTl_122 mAl pl bs (nI lf) kAt kWl mRd kRm hsh) H := hP
            have hD : va_D (wr_in (MdW om xS xV xB xT xA xP xR cI thr mS mSv (nI q) mBf kLn mTl mAl mPl kBs kLf0 kAt kWl mRd kRm hsh)) (MdW om xS xV xB xT xA xP xR cI thr mS mSv (nI q) mBf kLn mTl_122 mAl pl bs (nI lf) kAt kWl mRd kRm hsh) := hD
            refine lv_goto (tgt := 46) hx hb dX5_searches_123 (by decide) ?_
            refine ihd (i + 1) (by omega) (srM lf n mAl P (d + 1) (i + 1) (updN t i ch) (bs, pl)) (updN t i ch) (fun tl2 H locs ls hpre hP hD hS hl => ?_) 5 0 rfl _ bs pl H locs ls (upN_next (upN_ok ht emTl_59) emTl_122) (upN_4 ht4 (by omega)) (upN_self emTl_122) rfl hP hD hS (lv_sub hl [1, 2, 0] rfl)
            rw [pk_m1] at hl
            exact ihr (ch + 1) (by omega) _ _ _ H locs ls (upN_pre hpre).1 ht4 (upN_pre hpre).2 (by rw [← hz, srL, if_pos (by simp [c_81, c_91])]) hP hD hS hl
  · have c_34n := nI0_eq (by omega) c_34
    refine lv_aload_n hx hb dX5_searches_37 rfl (lv_at hl 1 rfl) ?_
    refine wr_callV (As := []) (rest := []) ⟨hx, hb, hml, hown, hts⟩ (c_X5_looksAt (P := P) l D (q := q) hq6 hn8 hQ hbk (lf := lf) hlf (t := fun _ => 0) (fun j hj => absurd hj (by omega)) (fun j hj => absurd hj (by omega))) (cwV 0 hts gX5_searches_X5_looksAt rfl rfl rfl (by decide +kernel) ⟨by decide, by decide⟩) hK hN hZ hP hD hS [0, 1, 2, 3, 4, 5, 6, 7] [0] rfl (by decide) rfl (q0 := 0) rfl rfl rfl hl.1 rfl (Nat.le_of_ble_eq_true rfl) ⟨by decide, by decide⟩ dX5_searches_38 (fun v9 w9 H locs hp9 hP hD hS => ?_)
    obtain ⟨rfl, rfl⟩ := hp9
    have hP : va_P D vwCl (MdW om xS xV xB xT xA xP xR cI thr mS mSv (nI q) mBf kLn mTl_27 mAl ((mLk lf n P (fun _ => 0) (if lf = 2 then 0 else -1, mPl)).2) ((mLk lf n P (fun _ => 0) (if lf = 2 then 0 else -1, mPl)).1) (nI lf) kAt kWl mRd kRm hsh) H := hP
    have hD : va_D (wr_in (MdW om xS xV xB xT xA xP xR cI thr mS mSv (nI q) mBf kLn mTl mAl mPl kBs kLf0 kAt kWl mRd kRm hsh)) (MdW om xS xV xB xT xA xP xR cI thr mS mSv (nI q) mBf kLn mTl_27 mAl ((mLk lf n P (fun _ => 0) (if lf = 2 then 0 else -1, mPl)).2) ((mLk lf n P (fun _ => 0) (if lf = 2 then 0 else -1, mPl)).1) (nI lf) kAt kWl mRd kRm hsh) := hD
    refine W.eq (g2 := F0 m 41 ls []) rfl ?_
    refine lv_aload_n hx hb dX5_searches_41 rfl (lv_at hl 1 rfl) ?_
    refine va_get (D := D) (ci := 5) (v := .int ((mLk lf n P (fun _ => 0) (if lf = 2 then 0 else -1, mPl)).1)) (C := RX5) (T := TX5) (N := 16) hx hb hts hinX5 hown hK hP 0 rfl rfl 9 (by decide) hw83 (fun _ h9 => h9) rfl dX5_searches_42 ?_
    exact wr_iret hx hb hr hlocks hP hS rfl dX5_searches_45 (by have hn0 := c_34n; subst hn0; exact ⟨rfl, _, rfl⟩)
