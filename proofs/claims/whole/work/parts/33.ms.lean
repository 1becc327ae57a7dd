set_option maxHeartbeats 4000000 in
set_option maxRecDepth 100000 in
theorem c_X5_worth (l : Launch) (D : va_G) {om xS xV xB xT xA xP xR : Nat} {cI : ClassId} {thr kLn kBs kAt kWl kRm : Int32} {hsh : Int64} {mS mSv mBf mTl mAl mPl mRd : Nat → Int32} {n : Nat} {P : Nat → Nat → Int32} {q : Nat} (hq6 : q ≤ 6) (hn8 : n ≤ 8) (hQ : mdS n P mS) (hbk : bd_ok n P) {lf : Nat} (hlf : lf < 3) {t : Nat → Nat} {u : Nat} (hu : u ≤ n) (ht : ∀ j, j < u → mTl j = nI (t j)) (ht4 : ∀ j, j < u → t j ≤ 4) : wr_M l yX5_worth wsX5_worth ({ frames := 2, cells := 0, slots := 0, locals := 43 } : Room) D (MdW om xS xV xB xT xA xP xR cI thr mS mSv (nI q) mBf kLn mTl mAl mPl kBs (nI lf) kAt kWl mRd kRm hsh) [(cI, .int)] [.ref om, .int (nI u)] (fun v w9 => v = some (.int (mWo lf P t u)) ∧ w9 = MdW om xS xV xB xT xA xP xR cI thr mS mSv (nI q) mBf kLn mTl mAl mPl kBs (nI lf) kAt kWl mRd kRm hsh) := by
  refine wr_of (cc := cX5_worth) (maxL := 5) (ret := some .int) (by decide) rfl (Nat.le_of_ble_eq_true rfl) ?_
  intro p e s m below meth c hx hb hr hml hts hown hlocks hP hK hN hZ hD hS ls hl
  have hown : s.vm.findClass RX5 = some m.cls := hown
  have hl : lv_has ls 5 [(0, .ref om), (1, .int (nI u))] := hl
  have hinX5 : ∀ w ∈ u_ws RX5 TX5 16, w ∈ wsX5_worth := by decide +kernel
  have hw19 := hts (.fieldLink RX5 19 "CornerLabelsModel" "told" "[I") (by decide +kernel)
  have hw80 := hts (.fieldLink RX5 80 "CornerLabelsModel" "looksFor" "I") (by decide +kernel)
  suffices body : ∀ (H : Heap) (locs : List Loc), va_P D vwCl (MdW om xS xV xB xT xA xP xR cI thr mS mSv (nI q) mBf kLn mTl mAl mPl kBs (nI lf) kAt kWl mRd kRm hsh) H → va_D (wr_in (MdW om xS xV xB xT xA xP xR cI thr mS mSv (nI q) mBf kLn mTl mAl mPl kBs (nI lf) kAt kWl mRd kRm hsh)) (MdW om xS xV xB xT xA xP xR cI thr mS mSv (nI q) mBf kLn mTl mAl mPl kBs (nI lf) kAt kWl mRd kRm hsh) → va_S (wr_in (MdW om xS xV xB xT xA xP xR cI thr mS mSv (nI q) mBf kLn mTl mAl mPl kBs (nI lf) kAt kWl mRd kRm hsh)) s.heap H locs → wr_W p l e wsX5_worth ({ frames := 2, cells := 0, slots := 0, locals := 43 } : Room) s m [.ref om, .int (nI u)] below meth c D (MdW om xS xV xB xT xA xP xR cI thr mS mSv (nI q) mBf kLn mTl mAl mPl kBs (nI lf) kAt kWl mRd kRm hsh) (fun v w9 => v = some (.int (mWo lf P t u)) ∧ w9 = MdW om xS xV xB xT xA xP xR cI thr mS mSv (nI q) mBf kLn mTl mAl mPl kBs (nI lf) kAt kWl mRd kRm hsh) H locs (F0 m 0 ls []) from body _ _ hP hD hS
  clear hP hD hS
  intro H locs hP hD hS
  refine lv_iconst (v := 0) hx hb dX5_worth_0 (by decide) ?_
  refine lv_istore_n (lv' := [(2, .int 0), (0, .ref om), (1, .int (nI u))]) hx hb dX5_worth_1 rfl hl (by decide) rfl (fun ls hl => ?_)
  refine lv_iconst (v := 0) hx hb dX5_worth_2 (by decide) ?_
  refine lv_istore_n (lv' := [(3, .int 0), (2, .int 0), (0, .ref om), (1, .int (nI u))]) hx hb dX5_worth_3 rfl hl (by decide) rfl (fun ls hl => ?_)
  suffices loop4 : ∀ (k4 i : Nat) (a : Int32) (H : Heap) (locs : List Loc) (ls : Array Slot), i ≤ u → u + 1 ≤ i + k4 → (mWo lf P t u = gF u (mWoF lf P t) i a) → va_P D vwCl (MdW om xS xV xB xT xA xP xR cI thr mS mSv (nI q) mBf kLn mTl mAl mPl kBs (nI lf) kAt kWl mRd kRm hsh) H → va_D (wr_in (MdW om xS xV xB xT xA xP xR cI thr mS mSv (nI q) mBf kLn mTl mAl mPl kBs (nI lf) kAt kWl mRd kRm hsh)) (MdW om xS xV xB xT xA xP xR cI thr mS mSv (nI q) mBf kLn mTl mAl mPl kBs (nI lf) kAt kWl mRd kRm hsh) → va_S (wr_in (MdW om xS xV xB xT xA xP xR cI thr mS mSv (nI q) mBf kLn mTl mAl mPl kBs (nI lf) kAt kWl mRd kRm hsh)) s.heap H locs → lv_has ls 5 [(0, .ref om), (1, .int (nI u)), (2, .int a), (3, .int (nI i))] → wr_W p l e wsX5_worth ({ frames := 2, cells := 0, slots := 0, locals := 43 } : Room) s m [.ref om, .int (nI u)] below meth c D (MdW om xS xV xB xT xA xP xR cI thr mS mSv (nI q) mBf kLn mTl mAl mPl kBs (nI lf) kAt kWl mRd kRm hsh) (fun v w9 => v = some (.int (mWo lf P t u)) ∧ w9 = MdW om xS xV xB xT xA xP xR cI thr mS mSv (nI q) mBf kLn mTl mAl mPl kBs (nI lf) kAt kWl mRd kRm hsh) H locs (F0 m 4 ls []) from
    loop4 (u + 1) 0 0 H locs ls (by omega) (by omega) (by rfl) hP hD hS (lv_sub hl [2, 3, 1, 0] rfl)
  intro k4
  induction k4 with
  | zero => intro i a H locs ls h1 h2; exact absurd h2 (by omega)
  | succ k4 ih4 =>
    intro i a H locs ls hle4 hlt4 inv4 hP hD hS hl
    refine lv_iload_n hx hb dX5_worth_4 rfl (lv_at hl 3 rfl) ?_
    refine lv_iload_n hx hb dX5_worth_5 rfl (lv_at hl 1 rfl) ?_
    refine rd_icmp_ge_n (a := i) (b := u) (tgt := 88) (by omega) (by omega) hx hb dX5_worth_6 (by decide) (fun c_6 => ?_) (fun c_6 => ?_)
    · have c_6n := Nat.not_lt.mpr c_6
      refine lv_iload_n hx hb dX5_worth_88 rfl (lv_at hl 2 rfl) ?_
      exact wr_iret hx hb hr hlocks hP hS rfl dX5_worth_89 (by exact ⟨by rw [inv4, gF_end c_6], rfl⟩)
    · have c_6n := Nat.not_le.mpr c_6
      suffices j37 : ∀ ls : Array Slot, lv_has ls 5 [(0, .ref om), (1, .int (nI u)), (2, .int a), (3, .int (nI i))] → wr_W p l e wsX5_worth ({ frames := 2, cells := 0, slots := 0, locals := 43 } : Room) s m [.ref om, .int (nI u)] below meth c D (MdW om xS xV xB xT xA xP xR cI thr mS mSv (nI q) mBf kLn mTl mAl mPl kBs (nI lf) kAt kWl mRd kRm hsh) (fun v w9 => v = some (.int (mWo lf P t u)) ∧ w9 = MdW om xS xV xB xT xA xP xR cI thr mS mSv (nI q) mBf kLn mTl mAl mPl kBs (nI lf) kAt kWl mRd kRm hsh) H locs (F0 m 37 ls [.int (bI (decide (¬ P i 5 = -1 ∧ ¬ nI (t i) = P i 5)))]) by
        refine lv_aload_n hx hb dX5_worth_9 rfl (lv_at hl 0 rfl) ?_
        refine lv_iload_n hx hb dX5_worth_10 rfl (lv_at hl 3 rfl) ?_
        have hmd : md_in (MdW om xS xV xB xT xA xP xR cI thr mS mSv (nI q) mBf kLn mTl mAl mPl kBs (nI lf) kAt kWl mRd kRm hsh) [(cI, .int)] om n P := ⟨0, 1, 0, xS, cI, mS, _, rfl, rfl, rfl, rfl, hn8, hQ.1, hQ.2, hbk⟩
        refine rd_callV (As := [.int (nI i)]) (rest := []) ⟨hx, hb, hml, hown, hts⟩ (c_X5_cornerOf l D hmd (show i < n by omega)) (cwV 1 hts gX5_worth_X5_cornerOf rfl rfl rfl (by decide +kernel) ⟨by decide, by decide⟩) hK hN hP (q0 := 0) rfl rfl rfl hl.1 rfl (Nat.le_of_ble_eq_true rfl) ⟨by decide, by decide⟩ dX5_worth_11 ?_
        refine lv_iconst (v := (-1)) hx hb dX5_worth_14 (by decide) ?_
        refine lv_icmp_eq (tgt := 36) hx hb dX5_worth_15 (by decide) (fun c_15 => ?_) (fun c_15 => ?_)
        · refine lv_iconst (v := 0) hx hb dX5_worth_36 (by decide) ?_
          refine lv_asi (y := bI (decide (¬ P i 5 = -1 ∧ ¬ nI (t i) = P i 5))) (by simp [bI, c_15]) ?_
          exact j37 ls (lv_sub hl [0, 1, 2, 3] rfl)
        · refine lv_aload_n hx hb dX5_worth_18 rfl (lv_at hl 0 rfl) ?_
          refine va_get (D := D) (ci := 5) (v := .ref xT) (C := RX5) (T := TX5) (N := 16) hx hb hts hinX5 hown hK hP 0 rfl rfl 6 (by decide) hw19 (fun _ h9 => h9) rfl dX5_worth_19 ?_
          refine lv_iload_n hx hb dX5_worth_22 rfl (lv_at hl 3 rfl) ?_
          refine rd_ald (q0 := 4) (t0 := 0) (j := i) (v := nI (t i)) hx hb hK hP rfl rfl (rfl) (by omega) (by decide) (ht i (by omega)) dX5_worth_23 ?_
          refine lv_aload_n hx hb dX5_worth_24 rfl (lv_at hl 0 rfl) ?_
          refine lv_iload_n hx hb dX5_worth_25 rfl (lv_at hl 3 rfl) ?_
          have hmd : md_in (MdW om xS xV xB xT xA xP xR cI thr mS mSv (nI q) mBf kLn mTl mAl mPl kBs (nI lf) kAt kWl mRd kRm hsh) [(cI, .int)] om n P := ⟨0, 1, 0, xS, cI, mS, _, rfl, rfl, rfl, rfl, hn8, hQ.1, hQ.2, hbk⟩
          refine rd_callV (As := [.int (nI i)]) (rest := [.int (nI (t i))]) ⟨hx, hb, hml, hown, hts⟩ (c_X5_cornerOf l D hmd (show i < n by omega)) (cwV 1 hts gX5_worth_X5_cornerOf rfl rfl rfl (by decide +kernel) ⟨by decide, by decide⟩) hK hN hP (q0 := 0) rfl rfl rfl hl.1 rfl (Nat.le_of_ble_eq_true rfl) ⟨by decide, by decide⟩ dX5_worth_26 ?_
          refine lv_icmp_eq (tgt := 36) hx hb dX5_worth_29 (by decide) (fun c_29 => ?_) (fun c_29 => ?_)
          · refine lv_iconst (v := 0) hx hb dX5_worth_36 (by decide) ?_
            refine lv_asi (y := bI (decide (¬ P i 5 = -1 ∧ ¬ nI (t i) = P i 5))) (by simp [bI, c_15, c_29]) ?_
            exact j37 ls (lv_sub hl [0, 1, 2, 3] rfl)
          · refine lv_iconst (v := 1) hx hb dX5_worth_32 (by decide) ?_
            refine lv_goto (tgt := 37) hx hb dX5_worth_33 (by decide) ?_
            refine lv_asi (y := bI (decide (¬ P i 5 = -1 ∧ ¬ nI (t i) = P i 5))) (by simp [bI, c_15, c_29]) ?_
            exact j37 ls (lv_sub hl [0, 1, 2, 3] rfl)
      intro ls hl
      refine lv_istore (lv' := [(4, .int (bI (decide (¬ P i 5 = -1 ∧ ¬ nI (t i) = P i 5)))), (0, .ref om), (1, .int (nI u)), (2, .int a), (3, .int (nI i))]) hx hb dX5_worth_37 hl (by decide) rfl (fun ls hl => ?_)
      refine lv_iload_n hx hb dX5_worth_39 rfl (lv_at hl 3 rfl) ?_
      refine lv_aload_n hx hb dX5_worth_40 rfl (lv_at hl 1 rfl) ?_
      refine va_get (D := D) (ci := 5) (v := .int (nI lf)) (C := RX5) (T := TX5) (N := 16) hx hb hts hinX5 hown hK hP 0 rfl rfl 10 (by decide) hw80 (fun _ h9 => h9) rfl dX5_worth_41 ?_
      refine lv_if_ne (tgt := 70) hx hb dX5_worth_44 (by decide) (fun c_44 => ?_) (fun c_44 => ?_)
      · have c_44n := nI0_ne c_44
        refine lv_iload hx hb dX5_worth_70 (lv_at hl 0 rfl) ?_
        refine rd_ifeq_b (tgt := 79) hx hb dX5_worth_72 (by decide) (fun c_72 => ?_) (fun c_72 => ?_)
        · refine lv_iconst (v := 0) hx hb dX5_worth_79 (by decide) ?_
          refine lv_iadd hx hb dX5_worth_80 ?_
          refine lv_istore_n (lv' := [(2, .int (a + 0)), (4, .int (bI (decide (¬ P i 5 = -1 ∧ ¬ nI (t i) = P i 5)))), (0, .ref om), (1, .int (nI u)), (3, .int (nI i))]) hx hb dX5_worth_81 rfl hl (by decide) rfl (fun ls hl => ?_)
          refine lv_iinc (v := nI (i + 1)) (lv' := [(3, .int (nI (i + 1))), (2, .int (a + 0)), (4, .int (bI (decide (¬ P i 5 = -1 ∧ ¬ nI (t i) = P i 5)))), (0, .ref om), (1, .int (nI u))]) hx hb dX5_worth_82 hl (k := 4) rfl (nI_add i 1) (by decide) rfl (fun ls hl => ?_)
          refine lv_goto (tgt := 4) hx hb dX5_worth_85 (by decide) ?_
          exact ih4 (i + 1) (a + 0) H locs ls (by omega) (by omega) (by rw [inv4, gF_step c_6, show mWoF lf P t i a = a + 0 from by unfold mWoF; rw [if_neg c_44n, if_neg (of_decide_eq_false c_72), Int32.add_zero]]) hP hD hS (lv_sub hl [3, 4, 1, 0] rfl)
        · refine lv_iconst (v := 1) hx hb dX5_worth_75 (by decide) ?_
          refine lv_goto (tgt := 80) hx hb dX5_worth_76 (by decide) ?_
          refine lv_iadd hx hb dX5_worth_80 ?_
          refine lv_istore_n (lv' := [(2, .int (a + 1)), (4, .int (bI (decide (¬ P i 5 = -1 ∧ ¬ nI (t i) = P i 5)))), (0, .ref om), (1, .int (nI u)), (3, .int (nI i))]) hx hb dX5_worth_81 rfl hl (by decide) rfl (fun ls hl => ?_)
          refine lv_iinc (v := nI (i + 1)) (lv' := [(3, .int (nI (i + 1))), (2, .int (a + 1)), (4, .int (bI (decide (¬ P i 5 = -1 ∧ ¬ nI (t i) = P i 5)))), (0, .ref om), (1, .int (nI u))]) hx hb dX5_worth_82 hl (k := 4) rfl (nI_add i 1) (by decide) rfl (fun ls hl => ?_)
          refine lv_goto (tgt := 4) hx hb dX5_worth_85 (by decide) ?_
          exact ih4 (i + 1) (a + 1) H locs ls (by omega) (by omega) (by rw [inv4, gF_step c_6, show mWoF lf P t i a = a + 1 from by unfold mWoF; rw [if_neg c_44n, if_pos (of_decide_eq_true c_72)]]) hP hD hS (lv_sub hl [3, 4, 1, 0] rfl)
      · have c_44n := nI0_eq (by omega) c_44
        have t4_47 := ht4 i c_6
        refine lv_aload_n hx hb dX5_worth_47 rfl (lv_at hl 1 rfl) ?_
        refine va_get (D := D) (ci := 5) (v := .ref xT) (C := RX5) (T := TX5) (N := 16) hx hb hts hinX5 hown hK hP 0 rfl rfl 6 (by decide) hw19 (fun _ h9 => h9) rfl dX5_worth_48 ?_
        refine lv_iload_n hx hb dX5_worth_51 rfl (lv_at hl 4 rfl) ?_
        refine rd_ald (q0 := 4) (t0 := 0) (j := i) (v := nI (t i)) hx hb hK hP rfl rfl (rfl) (by omega) (by decide) (ht i (by omega)) dX5_worth_52 ?_
        refine lv_iconst (v := 4) hx hb dX5_worth_53 (by decide) ?_
        refine rd_icmp_ne_n (a := t i) (b := 4) (tgt := 61) (by omega) (by omega) hx hb dX5_worth_54 (by decide) (fun c_54 => ?_) (fun c_54 => ?_)
        · refine lv_aload_n hx hb dX5_worth_61 rfl (lv_at hl 1 rfl) ?_
          refine lv_iload_n hx hb dX5_worth_62 rfl (lv_at hl 4 rfl) ?_
          refine lv_iconst (v := 4) hx hb dX5_worth_63 (by decide) ?_
          have hmd : md_in (MdW om xS xV xB xT xA xP xR cI thr mS mSv (nI q) mBf kLn mTl mAl mPl kBs (nI lf) kAt kWl mRd kRm hsh) [(cI, .int)] om n P := ⟨0, 1, 0, xS, cI, mS, _, rfl, rfl, rfl, rfl, hn8, hQ.1, hQ.2, hbk⟩
          refine rd_callV (As := [.int (nI i), .int 4]) (rest := [.int a]) ⟨hx, hb, hml, hown, hts⟩ (c_X5_of l D hmd (show i < n by omega) (k := 4) (by decide)) (cwV 2 hts gX5_worth_X5_of rfl rfl rfl (by decide +kernel) ⟨by decide, by decide⟩) hK hN hP (q0 := 0) rfl rfl rfl hl.1 rfl (Nat.le_of_ble_eq_true rfl) ⟨by decide, by decide⟩ dX5_worth_64 ?_
          refine lv_asi (y := P i 4) (rfl) ?_
          refine lv_goto (tgt := 80) hx hb dX5_worth_67 (by decide) ?_
          refine lv_iadd hx hb dX5_worth_80 ?_
          refine lv_istore_n (lv' := [(2, .int (a + (P i 4))), (4, .int (bI (decide (¬ P i 5 = -1 ∧ ¬ nI (t i) = P i 5)))), (0, .ref om), (1, .int (nI u)), (3, .int (nI i))]) hx hb dX5_worth_81 rfl hl (by decide) rfl (fun ls hl => ?_)
          refine lv_iinc (v := nI (i + 1)) (lv' := [(3, .int (nI (i + 1))), (2, .int (a + (P i 4))), (4, .int (bI (decide (¬ P i 5 = -1 ∧ ¬ nI (t i) = P i 5)))), (0, .ref om), (1, .int (nI u))]) hx hb dX5_worth_82 hl (k := 4) rfl (nI_add i 1) (by decide) rfl (fun ls hl => ?_)
          refine lv_goto (tgt := 4) hx hb dX5_worth_85 (by decide) ?_
          exact ih4 (i + 1) (a + (P i 4)) H locs ls (by omega) (by omega) (by rw [inv4, gF_step c_6]; simp [mWoF, c_44n, c_54]) hP hD hS (lv_sub hl [3, 4, 1, 0] rfl)
        · refine lv_iconst (v := 0) hx hb dX5_worth_57 (by decide) ?_
          refine lv_goto (tgt := 80) hx hb dX5_worth_58 (by decide) ?_
          refine lv_iadd hx hb dX5_worth_80 ?_
          refine lv_istore_n (lv' := [(2, .int (a + 0)), (4, .int (bI (decide (¬ P i 5 = -1 ∧ ¬ nI (t i) = P i 5)))), (0, .ref om), (1, .int (nI u)), (3, .int (nI i))]) hx hb dX5_worth_81 rfl hl (by decide) rfl (fun ls hl => ?_)
          refine lv_iinc (v := nI (i + 1)) (lv' := [(3, .int (nI (i + 1))), (2, .int (a + 0)), (4, .int (bI (decide (¬ P i 5 = -1 ∧ ¬ nI (t i) = P i 5)))), (0, .ref om), (1, .int (nI u))]) hx hb dX5_worth_82 hl (k := 4) rfl (nI_add i 1) (by decide) rfl (fun ls hl => ?_)
          refine lv_goto (tgt := 4) hx hb dX5_worth_85 (by decide) ?_
          exact ih4 (i + 1) (a + 0) H locs ls (by omega) (by omega) (by rw [inv4, gF_step c_6]; simp [mWoF, c_44n, c_54]) hP hD hS (lv_sub hl [3, 4, 1, 0] rfl)
set_option maxHeartbeats 4000000 in
set_option maxRecDepth 100000 in
theorem c_X5_weightFrom (l : Launch) (D : va_G) {om xS xV xB xT xA xP xR : Nat} {cI : ClassId} {thr kLn kBs kAt kWl kRm : Int32} {hsh : Int64} {mS mSv mBf mTl mAl mPl mRd : Nat → Int32} {n : Nat} {P : Nat → Nat → Int32} {q : Nat} (hq6 : q ≤ 6) (hn8 : n ≤ 8) (hQ : mdS n P mS) (hbk : bd_ok n P) {lf : Nat} (hlf : lf < 3) {t : Nat → Nat} {u : Nat} (hu : u ≤ n) : wr_M l yX5_weightFrom wsX5_weightFrom ({ frames := 1, cells := 0, slots := 0, locals := 22 } : Room) D (MdW om xS xV xB xT xA xP xR cI thr mS mSv (nI q) mBf kLn mTl mAl mPl kBs (nI lf) kAt kWl mRd kRm hsh) [(cI, .int)] [.ref om, .int (nI u)] (fun v w9 => v = some (.int (mWt n P u)) ∧ w9 = MdW om xS xV xB xT xA xP xR cI thr mS mSv (nI q) mBf kLn mTl mAl mPl kBs (nI lf) kAt kWl mRd kRm hsh) := by
  refine wr_of (cc := cX5_weightFrom) (maxL := 4) (ret := some .int) (by decide) rfl (Nat.le_of_ble_eq_true rfl) ?_
  intro p e s m below meth c hx hb hr hml hts hown hlocks hP hK hN hZ hD hS ls hl
  have hown : s.vm.findClass RX5 = some m.cls := hown
  have hl : lv_has ls 4 [(0, .ref om), (1, .int (nI u))] := hl
  have hinX5 : ∀ w ∈ u_ws RX5 TX5 16, w ∈ wsX5_weightFrom := by decide +kernel
  have hw7 := hts (.fieldLink RX5 7 "CornerLabelsModel" "s" "[I") (by decide +kernel)
  suffices body : ∀ (H : Heap) (locs : List Loc), va_P D vwCl (MdW om xS xV xB xT xA xP xR cI thr mS mSv (nI q) mBf kLn mTl mAl mPl kBs (nI lf) kAt kWl mRd kRm hsh) H → va_D (wr_in (MdW om xS xV xB xT xA xP xR cI thr mS mSv (nI q) mBf kLn mTl mAl mPl kBs (nI lf) kAt kWl mRd kRm hsh)) (MdW om xS xV xB xT xA xP xR cI thr mS mSv (nI q) mBf kLn mTl mAl mPl kBs (nI lf) kAt kWl mRd kRm hsh) → va_S (wr_in (MdW om xS xV xB xT xA xP xR cI thr mS mSv (nI q) mBf kLn mTl mAl mPl kBs (nI lf) kAt kWl mRd kRm hsh)) s.heap H locs → wr_W p l e wsX5_weightFrom ({ frames := 1, cells := 0, slots := 0, locals := 22 } : Room) s m [.ref om, .int (nI u)] below meth c D (MdW om xS xV xB xT xA xP xR cI thr mS mSv (nI q) mBf kLn mTl mAl mPl kBs (nI lf) kAt kWl mRd kRm hsh) (fun v w9 => v = some (.int (mWt n P u)) ∧ w9 = MdW om xS xV xB xT xA xP xR cI thr mS mSv (nI q) mBf kLn mTl mAl mPl kBs (nI lf) kAt kWl mRd kRm hsh) H locs (F0 m 0 ls []) from body _ _ hP hD hS
  clear hP hD hS
  intro H locs hP hD hS
  refine lv_iconst (v := 0) hx hb dX5_weightFrom_0 (by decide) ?_
  refine lv_istore_n (lv' := [(2, .int 0), (0, .ref om), (1, .int (nI u))]) hx hb dX5_weightFrom_1 rfl hl (by decide) rfl (fun ls hl => ?_)
  refine lv_iload_n hx hb dX5_weightFrom_2 rfl (lv_at hl 2 rfl) ?_
  refine lv_istore_n (lv' := [(3, .int (nI u)), (2, .int 0), (0, .ref om), (1, .int (nI u))]) hx hb dX5_weightFrom_3 rfl hl (by decide) rfl (fun ls hl => ?_)
  suffices loop4 : ∀ (k4 i : Nat) (a : Int32) (H : Heap) (locs : List Loc) (ls : Array Slot), i ≤ n → n + 1 ≤ i + k4 → (mWt n P u = gF n (gAWF P) i a) → va_P D vwCl (MdW om xS xV xB xT xA xP xR cI thr mS mSv (nI q) mBf kLn mTl mAl mPl kBs (nI lf) kAt kWl mRd kRm hsh) H → va_D (wr_in (MdW om xS xV xB xT xA xP xR cI thr mS mSv (nI q) mBf kLn mTl mAl mPl kBs (nI lf) kAt kWl mRd kRm hsh)) (MdW om xS xV xB xT xA xP xR cI thr mS mSv (nI q) mBf kLn mTl mAl mPl kBs (nI lf) kAt kWl mRd kRm hsh) → va_S (wr_in (MdW om xS xV xB xT xA xP xR cI thr mS mSv (nI q) mBf kLn mTl mAl mPl kBs (nI lf) kAt kWl mRd kRm hsh)) s.heap H locs → lv_has ls 4 [(0, .ref om), (1, .int (nI u)), (2, .int a), (3, .int (nI i))] → wr_W p l e wsX5_weightFrom ({ frames := 1, cells := 0, slots := 0, locals := 22 } : Room) s m [.ref om, .int (nI u)] below meth c D (MdW om xS xV xB xT xA xP xR cI thr mS mSv (nI q) mBf kLn mTl mAl mPl kBs (nI lf) kAt kWl mRd kRm hsh) (fun v w9 => v = some (.int (mWt n P u)) ∧ w9 = MdW om xS xV xB xT xA xP xR cI thr mS mSv (nI q) mBf kLn mTl mAl mPl kBs (nI lf) kAt kWl mRd kRm hsh) H locs (F0 m 4 ls []) from
    loop4 (n + 1) u 0 H locs ls (by omega) (by omega) (by rfl) hP hD hS (lv_sub hl [2, 3, 1, 0] rfl)
  intro k4
  induction k4 with
  | zero => intro i a H locs ls h1 h2; exact absurd h2 (by omega)
  | succ k4 ih4 =>
    intro i a H locs ls hle4 hlt4 inv4 hP hD hS hl
    refine lv_iload_n hx hb dX5_weightFrom_4 rfl (lv_at hl 3 rfl) ?_
    refine lv_aload_n hx hb dX5_weightFrom_5 rfl (lv_at hl 0 rfl) ?_
    refine va_get (D := D) (ci := 5) (v := .ref xS) (C := RX5) (T := TX5) (N := 16) hx hb hts hinX5 hown hK hP 0 rfl rfl 1 (by decide) hw7 (fun _ h9 => h9) rfl dX5_weightFrom_6 ?_
    refine lv_iconst (v := 0) hx hb dX5_weightFrom_9 (by decide) ?_
    refine rd_ald (q0 := 1) (t0 := 0) (j := 0) (v := nI n) hx hb hK hP rfl rfl (rfl) (by omega) (by decide) (hQ.1) dX5_weightFrom_10 ?_
    refine rd_icmp_ge_n (a := i) (b := n) (tgt := 29) (by omega) (by omega) hx hb dX5_weightFrom_11 (by decide) (fun c_11 => ?_) (fun c_11 => ?_)
    · have c_11n := Nat.not_lt.mpr c_11
      refine lv_iload_n hx hb dX5_weightFrom_29 rfl (lv_at hl 2 rfl) ?_
      exact wr_iret hx hb hr hlocks hP hS rfl dX5_weightFrom_30 (by exact ⟨by rw [inv4, gF_end c_11], rfl⟩)
    · have c_11n := Nat.not_le.mpr c_11
      refine lv_iload_n hx hb dX5_weightFrom_14 rfl (lv_at hl 2 rfl) ?_
      refine lv_aload_n hx hb dX5_weightFrom_15 rfl (lv_at hl 0 rfl) ?_
      refine lv_iload_n hx hb dX5_weightFrom_16 rfl (lv_at hl 3 rfl) ?_
      refine lv_iconst (v := 4) hx hb dX5_weightFrom_17 (by decide) ?_
      have hmd : md_in (MdW om xS xV xB xT xA xP xR cI thr mS mSv (nI q) mBf kLn mTl mAl mPl kBs (nI lf) kAt kWl mRd kRm hsh) [(cI, .int)] om n P := ⟨0, 1, 0, xS, cI, mS, _, rfl, rfl, rfl, rfl, hn8, hQ.1, hQ.2, hbk⟩
      refine rd_callV (As := [.int (nI i), .int 4]) (rest := [.int a]) ⟨hx, hb, hml, hown, hts⟩ (c_X5_of l D hmd c_11 (k := 4) (by decide)) (cwV 2 hts gX5_weightFrom_X5_of rfl rfl rfl (by decide +kernel) ⟨by decide, by decide⟩) hK hN hP (q0 := 0) rfl rfl rfl hl.1 rfl (Nat.le_of_ble_eq_true rfl) ⟨by decide, by decide⟩ dX5_weightFrom_18 ?_
      refine lv_asi (y := P i 4) (rfl) ?_
      refine lv_iadd hx hb dX5_weightFrom_21 ?_
      refine lv_istore_n (lv' := [(2, .int (a + (P i 4))), (0, .ref om), (1, .int (nI u)), (3, .int (nI i))]) hx hb dX5_weightFrom_22 rfl hl (by decide) rfl (fun ls hl => ?_)
      refine lv_iinc (v := nI (i + 1)) (lv' := [(3, .int (nI (i + 1))), (2, .int (a + (P i 4))), (0, .ref om), (1, .int (nI u))]) hx hb dX5_weightFrom_23 hl (k := 3) rfl (nI_add i 1) (by decide) rfl (fun ls hl => ?_)
      refine lv_goto (tgt := 4) hx hb dX5_weightFrom_26 (by decide) ?_
      exact ih4 (i + 1) (a + (P i 4)) H locs ls (by omega) (by omega) (by rw [inv4, gF_step c_11]; rfl) hP hD hS (lv_sub hl [2, 3, 1, 0] rfl)
set_option maxHeartbeats 4000000 in
set_option maxRecDepth 100000 in
theorem c_X5_fits (l : Launch) (D : va_G) {om xS xV xB xT xA xP xR : Nat} {cI : ClassId} {thr kLn kBs kAt kWl kRm : Int32} {hsh : Int64} {mS mSv mBf mTl mAl mPl mRd : Nat → Int32} {n : Nat} {P : Nat → Nat → Int32} {q : Nat} (hq6 : q ≤ 6) (hn8 : n ≤ 8) (hQ : mdS n P mS) (hbk : bd_ok n P) {lf : Nat} (hlf : lf < 3) {t : Nat → Nat} {i : Nat} (hi : i < n) (ht : ∀ j, j < i + 1 → mTl j = nI (t j)) (ht4 : ∀ j, j < i + 1 → t j ≤ 4) : wr_M l yX5_fits wsX5_fits ({ frames := 4, cells := 0, slots := 0, locals := 92 } : Room) D (MdW om xS xV xB xT xA xP xR cI thr mS mSv (nI q) mBf kLn mTl mAl mPl kBs (nI lf) kAt kWl mRd kRm hsh) [(cI, .int)] [.ref om, .int (nI i)] (fun v w9 => v = some (.int (bI (mFit mAl P t i))) ∧ w9 = MdW om xS xV xB xT xA xP xR cI thr mS mSv (nI q) mBf kLn mTl mAl mPl kBs (nI lf) kAt kWl mRd kRm hsh) := by
  refine wr_of (cc := cX5_fits) (maxL := 5) (ret := some .boolean) (by decide) rfl (Nat.le_of_ble_eq_true rfl) ?_
  intro p e s m below meth c hx hb hr hml hts hown hlocks hP hK hN hZ hD hS ls hl
  have hown : s.vm.findClass RX5 = some m.cls := hown
  have hl : lv_has ls 5 [(0, .ref om), (1, .int (nI i))] := hl
  have hinX5 : ∀ w ∈ u_ws RX5 TX5 16, w ∈ wsX5_fits := by decide +kernel
  have hw19 := hts (.fieldLink RX5 19 "CornerLabelsModel" "told" "[I") (by decide +kernel)
  have hw22 := hts (.fieldLink RX5 22 "CornerLabelsModel" "allowed" "[I") (by decide +kernel)
  suffices body : ∀ (H : Heap) (locs : List Loc), va_P D vwCl (MdW om xS xV xB xT xA xP xR cI thr mS mSv (nI q) mBf kLn mTl mAl mPl kBs (nI lf) kAt kWl mRd kRm hsh) H → va_D (wr_in (MdW om xS xV xB xT xA xP xR cI thr mS mSv (nI q) mBf kLn mTl mAl mPl kBs (nI lf) kAt kWl mRd kRm hsh)) (MdW om xS xV xB xT xA xP xR cI thr mS mSv (nI q) mBf kLn mTl mAl mPl kBs (nI lf) kAt kWl mRd kRm hsh) → va_S (wr_in (MdW om xS xV xB xT xA xP xR cI thr mS mSv (nI q) mBf kLn mTl mAl mPl kBs (nI lf) kAt kWl mRd kRm hsh)) s.heap H locs → wr_W p l e wsX5_fits ({ frames := 4, cells := 0, slots := 0, locals := 92 } : Room) s m [.ref om, .int (nI i)] below meth c D (MdW om xS xV xB xT xA xP xR cI thr mS mSv (nI q) mBf kLn mTl mAl mPl kBs (nI lf) kAt kWl mRd kRm hsh) (fun v w9 => v = some (.int (bI (mFit mAl P t i))) ∧ w9 = MdW om xS xV xB xT xA xP xR cI thr mS mSv (nI q) mBf kLn mTl mAl mPl kBs (nI lf) kAt kWl mRd kRm hsh) H locs (F0 m 0 ls []) from body _ _ hP hD hS
  clear hP hD hS
  intro H locs hP hD hS
  have t4_0 := ht4 i (by omega)
  refine lv_aload_n hx hb dX5_fits_0 rfl (lv_at hl 0 rfl) ?_
  refine va_get (D := D) (ci := 5) (v := .ref xT) (C := RX5) (T := TX5) (N := 16) hx hb hts hinX5 hown hK hP 0 rfl rfl 6 (by decide) hw19 (fun _ h9 => h9) rfl dX5_fits_1 ?_
  refine lv_iload_n hx hb dX5_fits_4 rfl (lv_at hl 1 rfl) ?_
  refine rd_ald (q0 := 4) (t0 := 0) (j := i) (v := nI (t i)) hx hb hK hP rfl rfl (rfl) (by omega) (by decide) (ht i (by omega)) dX5_fits_5 ?_
  refine lv_istore_n (lv' := [(2, .int (nI (t i))), (0, .ref om), (1, .int (nI i))]) hx hb dX5_fits_6 rfl hl (by decide) rfl (fun ls hl => ?_)
  suffices j26 : ∀ ls : Array Slot, lv_has ls 5 [(2, .int (nI (t i))), (0, .ref om), (1, .int (nI i))] → wr_W p l e wsX5_fits ({ frames := 4, cells := 0, slots := 0, locals := 92 } : Room) s m [.ref om, .int (nI i)] below meth c D (MdW om xS xV xB xT xA xP xR cI thr mS mSv (nI q) mBf kLn mTl mAl mPl kBs (nI lf) kAt kWl mRd kRm hsh) (fun v w9 => v = some (.int (bI (mFit mAl P t i))) ∧ w9 = MdW om xS xV xB xT xA xP xR cI thr mS mSv (nI q) mBf kLn mTl mAl mPl kBs (nI lf) kAt kWl mRd kRm hsh) H locs (F0 m 26 ls [.int (bI (mBt (mAl i) (t i)))]) by
    refine lv_aload_n hx hb dX5_fits_7 rfl (lv_at hl 1 rfl) ?_
    refine va_get (D := D) (ci := 5) (v := .ref xA) (C := RX5) (T := TX5) (N := 16) hx hb hts hinX5 hown hK hP 0 rfl rfl 7 (by decide) hw22 (fun _ h9 => h9) rfl dX5_fits_8 ?_
    refine lv_iload_n hx hb dX5_fits_11 rfl (lv_at hl 2 rfl) ?_
    refine rd_ald (q0 := 5) (t0 := 0) (j := i) (v := mAl i) hx hb hK hP rfl rfl (rfl) (by omega) (by decide) (rfl) dX5_fits_12 ?_
    refine lv_iload_n hx hb dX5_fits_13 rfl (lv_at hl 0 rfl) ?_
    refine lv_ishr hx hb dX5_fits_14 ?_
    refine lv_iconst (v := 1) hx hb dX5_fits_15 (by decide) ?_
    refine lv_iand hx hb dX5_fits_16 ?_
    refine lv_iconst (v := 1) hx hb dX5_fits_17 (by decide) ?_
    refine lv_icmp_ne (tgt := 25) hx hb dX5_fits_18 (by decide) (fun c_18 => ?_) (fun c_18 => ?_)
    · refine lv_iconst (v := 0) hx hb dX5_fits_25 (by decide) ?_
      refine lv_asi (y := bI (mBt (mAl i) (t i))) (by simp [mBt, bI, c_18]) ?_
      exact j26 ls (lv_sub hl [0, 1, 2] rfl)
    · refine lv_iconst (v := 1) hx hb dX5_fits_21 (by decide) ?_
      refine lv_goto (tgt := 26) hx hb dX5_fits_22 (by decide) ?_
      refine lv_asi (y := bI (mBt (mAl i) (t i))) (by simp [mBt, bI, c_18]) ?_
      exact j26 ls (lv_sub hl [0, 1, 2] rfl)
  intro ls hl
  refine lv_istore_n (lv' := [(3, .int (bI (mBt (mAl i) (t i)))), (2, .int (nI (t i))), (0, .ref om), (1, .int (nI i))]) hx hb dX5_fits_26 rfl hl (by decide) rfl (fun ls hl => ?_)
  refine lv_iconst (v := 0) hx hb dX5_fits_27 (by decide) ?_
  refine lv_istore (lv' := [(4, .int 0), (3, .int (bI (mBt (mAl i) (t i)))), (2, .int (nI (t i))), (0, .ref om), (1, .int (nI i))]) hx hb dX5_fits_28 hl (by decide) rfl (fun ls hl => ?_)
  suffices loop30 : ∀ (k30 j : Nat) (b : Bool) (H : Heap) (locs : List Loc) (ls : Array Slot), j ≤ i → i + 1 ≤ j + k30 → ((t i = 4 → b = mBt (mAl i) (t i)) ∧ (¬ t i = 4 → (mBt (mAl i) (t i) && !gE i (mFitB P t i) 0) = (b && !gE i (mFitB P t i) j))) → va_P D vwCl (MdW om xS xV xB xT xA xP xR cI thr mS mSv (nI q) mBf kLn mTl mAl mPl kBs (nI lf) kAt kWl mRd kRm hsh) H → va_D (wr_in (MdW om xS xV xB xT xA xP xR cI thr mS mSv (nI q) mBf kLn mTl mAl mPl kBs (nI lf) kAt kWl mRd kRm hsh)) (MdW om xS xV xB xT xA xP xR cI thr mS mSv (nI q) mBf kLn mTl mAl mPl kBs (nI lf) kAt kWl mRd kRm hsh) → va_S (wr_in (MdW om xS xV xB xT xA xP xR cI thr mS mSv (nI q) mBf kLn mTl mAl mPl kBs (nI lf) kAt kWl mRd kRm hsh)) s.heap H locs → lv_has ls 5 [(0, .ref om), (1, .int (nI i)), (2, .int (nI (t i))), (3, .int (bI b)), (4, .int (nI j))] → wr_W p l e wsX5_fits ({ frames := 4, cells := 0, slots := 0, locals := 92 } : Room) s m [.ref om, .int (nI i)] below meth c D (MdW om xS xV xB xT xA xP xR cI thr mS mSv (nI q) mBf kLn mTl mAl mPl kBs (nI lf) kAt kWl mRd kRm hsh) (fun v w9 => v = some (.int (bI (mFit mAl P t i))) ∧ w9 = MdW om xS xV xB xT xA xP xR cI thr mS mSv (nI q) mBf kLn mTl mAl mPl kBs (nI lf) kAt kWl mRd kRm hsh) H locs (F0 m 30 ls []) from
    loop30 (i + 1) 0 (mBt (mAl i) (t i)) H locs ls (by omega) (by omega) (by exact ⟨fun _ => rfl, fun _ => rfl⟩) hP hD hS (lv_sub hl [3, 4, 2, 1, 0] rfl)
  intro k30
  induction k30 with
  | zero => intro j b H locs ls h1 h2; exact absurd h2 (by omega)
  | succ k30 ih30 =>
    intro j b H locs ls hle30 hlt30 inv30 hP hD hS hl
    refine lv_iload hx hb dX5_fits_30 (lv_at hl 4 rfl) ?_
    refine lv_iload_n hx hb dX5_fits_32 rfl (lv_at hl 1 rfl) ?_
    refine rd_icmp_ge_n (a := j) (b := i) (tgt := 86) (by omega) (by omega) hx hb dX5_fits_33 (by decide) (fun c_33 => ?_) (fun c_33 => ?_)
    · have c_33n := Nat.not_lt.mpr c_33
      refine lv_iload_n hx hb dX5_fits_86 rfl (lv_at hl 3 rfl) ?_
      exact wr_zret (b := b) hx hb hr hlocks hP hS rfl dX5_fits_87 (by exact ⟨by rw [mFit_end inv30 (Or.inr c_33)], rfl⟩)
    · have c_33n := Nat.not_le.mpr c_33
      refine lv_iload_n hx hb dX5_fits_36 rfl (lv_at hl 2 rfl) ?_
      refine lv_iconst (v := 4) hx hb dX5_fits_37 (by decide) ?_
      refine rd_icmp_eq_n (a := t i) (b := 4) (tgt := 86) (by omega) (by omega) hx hb dX5_fits_38 (by decide) (fun c_38 => ?_) (fun c_38 => ?_)
      · refine lv_iload_n hx hb dX5_fits_86 rfl (lv_at hl 3 rfl) ?_
        exact wr_zret (b := b) hx hb hr hlocks hP hS rfl dX5_fits_87 (by exact ⟨by rw [mFit_end inv30 (Or.inl c_38)], rfl⟩)
      · refine lv_iload_n hx hb dX5_fits_41 rfl (lv_at hl 3 rfl) ?_
        refine rd_ifeq_b (tgt := 78) hx hb dX5_fits_42 (by decide) (fun c_42 => ?_) (fun c_42 => ?_)
        · refine lv_iconst (v := 0) hx hb dX5_fits_78 (by decide) ?_
          refine lv_istore_n (lv' := [(3, .int 0), (0, .ref om), (1, .int (nI i)), (2, .int (nI (t i))), (4, .int (nI j))]) hx hb dX5_fits_79 rfl hl (by decide) rfl (fun ls hl => ?_)
          refine lv_iinc (v := nI (j + 1)) (lv' := [(4, .int (nI (j + 1))), (3, .int 0), (0, .ref om), (1, .int (nI i)), (2, .int (nI (t i)))]) hx hb dX5_fits_80 hl (k := 4) rfl (nI_add j 1) (by decide) rfl (fun ls hl => ?_)
          refine lv_goto (tgt := 30) hx hb dX5_fits_83 (by decide) ?_
          exact ih30 (j + 1) false H locs ls (by omega) (by omega) (by exact ⟨fun z => absurd z c_38, fun z => by rw [inv30.2 z, gE_step c_33]; simp [mFitB, c_42]⟩) hP hD hS (lv_sub hl [2, 3, 4, 1, 0] rfl)
        · have t4_45 := ht4 j (by omega)
          refine lv_aload_n hx hb dX5_fits_45 rfl (lv_at hl 0 rfl) ?_
          refine va_get (D := D) (ci := 5) (v := .ref xT) (C := RX5) (T := TX5) (N := 16) hx hb hts hinX5 hown hK hP 0 rfl rfl 6 (by decide) hw19 (fun _ h9 => h9) rfl dX5_fits_46 ?_
          refine lv_iload hx hb dX5_fits_49 (lv_at hl 4 rfl) ?_
          refine rd_ald (q0 := 4) (t0 := 0) (j := j) (v := nI (t j)) hx hb hK hP rfl rfl (rfl) (by omega) (by decide) (ht j (by omega)) dX5_fits_51 ?_
          refine lv_iconst (v := 4) hx hb dX5_fits_52 (by decide) ?_
          refine rd_icmp_eq_n (a := t j) (b := 4) (tgt := 74) (by omega) (by omega) hx hb dX5_fits_53 (by decide) (fun c_53 => ?_) (fun c_53 => ?_)
          · refine lv_iconst (v := 1) hx hb dX5_fits_74 (by decide) ?_
            refine lv_goto (tgt := 79) hx hb dX5_fits_75 (by decide) ?_
            refine lv_istore_n (lv' := [(3, .int 1), (0, .ref om), (1, .int (nI i)), (2, .int (nI (t i))), (4, .int (nI j))]) hx hb dX5_fits_79 rfl hl (by decide) rfl (fun ls hl => ?_)
            refine lv_iinc (v := nI (j + 1)) (lv' := [(4, .int (nI (j + 1))), (3, .int 1), (0, .ref om), (1, .int (nI i)), (2, .int (nI (t i)))]) hx hb dX5_fits_80 hl (k := 4) rfl (nI_add j 1) (by decide) rfl (fun ls hl => ?_)
            refine lv_goto (tgt := 30) hx hb dX5_fits_83 (by decide) ?_
            exact ih30 (j + 1) true H locs ls (by omega) (by omega) (by exact ⟨fun z => absurd z c_38, fun z => by rw [inv30.2 z, gE_step c_33]; simp [mFitB, c_42, c_53]⟩) hP hD hS (lv_sub hl [2, 3, 4, 1, 0] rfl)
          · refine lv_aload_n hx hb dX5_fits_56 rfl (lv_at hl 0 rfl) ?_
            refine lv_iload_n hx hb dX5_fits_57 rfl (lv_at hl 1 rfl) ?_
            refine lv_iload_n hx hb dX5_fits_58 rfl (lv_at hl 2 rfl) ?_
            refine lv_iload hx hb dX5_fits_59 (lv_at hl 4 rfl) ?_
            refine lv_aload_n hx hb dX5_fits_61 rfl (lv_at hl 0 rfl) ?_
            refine va_get (D := D) (ci := 5) (v := .ref xT) (C := RX5) (T := TX5) (N := 16) hx hb hts hinX5 hown hK hP 0 rfl rfl 6 (by decide) hw19 (fun _ h9 => h9) rfl dX5_fits_62 ?_
            refine lv_iload hx hb dX5_fits_65 (lv_at hl 4 rfl) ?_
            refine rd_ald (q0 := 4) (t0 := 0) (j := j) (v := nI (t j)) hx hb hK hP rfl rfl (rfl) (by omega) (by decide) (ht j (by omega)) dX5_fits_67 ?_
            have hmd : md_in (MdW om xS xV xB xT xA xP xR cI thr mS mSv (nI q) mBf kLn mTl mAl mPl kBs (nI lf) kAt kWl mRd kRm hsh) [(cI, .int)] om n P := ⟨0, 1, 0, xS, cI, mS, _, rfl, rfl, rfl, rfl, hn8, hQ.1, hQ.2, hbk⟩
            refine rd_callV (As := [.int (nI i), .int (nI (t i)), .int (nI j), .int (nI (t j))]) (rest := []) ⟨hx, hb, hml, hown, hts⟩ (c_X5_common l D hmd hi (ok4_t (ht4 i (by omega)) c_38) (show j < n by omega) (ok4_t (ht4 j (by omega)) c_53)) (cwV 4 hts gX5_fits_X5_common rfl rfl rfl (by decide +kernel) ⟨by decide, by decide⟩) hK hN hP (q0 := 0) rfl rfl rfl hl.1 rfl (Nat.le_of_ble_eq_true rfl) ⟨by decide, by decide⟩ dX5_fits_68 ?_
            refine lv_if_ne (tgt := 78) hx hb dX5_fits_71 (by decide) (fun c_71 => ?_) (fun c_71 => ?_)
            · refine lv_iconst (v := 0) hx hb dX5_fits_78 (by decide) ?_
              refine lv_istore_n (lv' := [(3, .int 0), (0, .ref om), (1, .int (nI i)), (2, .int (nI (t i))), (4, .int (nI j))]) hx hb dX5_fits_79 rfl hl (by decide) rfl (fun ls hl => ?_)
              refine lv_iinc (v := nI (j + 1)) (lv' := [(4, .int (nI (j + 1))), (3, .int 0), (0, .ref om), (1, .int (nI i)), (2, .int (nI (t i)))]) hx hb dX5_fits_80 hl (k := 4) rfl (nI_add j 1) (by decide) rfl (fun ls hl => ?_)
              refine lv_goto (tgt := 30) hx hb dX5_fits_83 (by decide) ?_
              exact ih30 (j + 1) false H locs ls (by omega) (by omega) (by exact ⟨fun z => absurd z c_38, fun z => by rw [inv30.2 z, gE_step c_33]; simp [mFitB, c_42, c_53, c_71]⟩) hP hD hS (lv_sub hl [2, 3, 4, 1, 0] rfl)
            · refine lv_iconst (v := 1) hx hb dX5_fits_74 (by decide) ?_
              refine lv_goto (tgt := 79) hx hb dX5_fits_75 (by decide) ?_
              refine lv_istore_n (lv' := [(3, .int 1), (0, .ref om), (1, .int (nI i)), (2, .int (nI (t i))), (4, .int (nI j))]) hx hb dX5_fits_79 rfl hl (by decide) rfl (fun ls hl => ?_)
              refine lv_iinc (v := nI (j + 1)) (lv' := [(4, .int (nI (j + 1))), (3, .int 1), (0, .ref om), (1, .int (nI i)), (2, .int (nI (t i)))]) hx hb dX5_fits_80 hl (k := 4) rfl (nI_add j 1) (by decide) rfl (fun ls hl => ?_)
              refine lv_goto (tgt := 30) hx hb dX5_fits_83 (by decide) ?_
              exact ih30 (j + 1) true H locs ls (by omega) (by omega) (by exact ⟨fun z => absurd z c_38, fun z => by rw [inv30.2 z, gE_step c_33]; simp [mFitB, c_42, c_53, c_71]⟩) hP hD hS (lv_sub hl [2, 3, 4, 1, 0] rfl)
set_option maxHeartbeats 4000000 in
set_option maxRecDepth 100000 in
theorem c_X5_canBe (l : Launch) (D : va_G) {om xS xV xB xT xA xP xR : Nat} {cI : ClassId} {thr kLn kBs kAt kWl kRm : Int32} {hsh : Int64} {mS mSv mBf mTl mAl mPl mRd : Nat → Int32} {n : Nat} {P : Nat → Nat → Int32} {q : Nat} (hq6 : q ≤ 6) (hn8 : n ≤ 8) (hQ : mdS n P mS) (hbk : bd_ok n P) {lf : Nat} (hlf : lf < 3) {t : Nat → Nat} {u : Nat} (hu : u ≤ n) (ht : ∀ j, j < u → mTl j = nI (t j)) (ht4 : ∀ j, j < u → t j ≤ 4) : wr_M l yX5_canBe wsX5_canBe ({ frames := 3, cells := 0, slots := 0, locals := 67 } : Room) D (MdW om xS xV xB xT xA xP xR cI thr mS mSv (nI q) mBf kLn mTl mAl mPl kBs (nI lf) kAt kWl mRd kRm hsh) [(cI, .int)] [.ref om, .int (nI u)] (fun v w9 => v = some (.int (bI (mCan lf n P t kBs u))) ∧ w9 = MdW om xS xV xB xT xA xP xR cI thr mS mSv (nI q) mBf kLn mTl mAl mPl kBs (nI lf) kAt kWl mRd kRm hsh) := by
  refine wr_of (cc := cX5_canBe) (maxL := 2) (ret := some .boolean) (by decide) rfl (Nat.le_of_ble_eq_true rfl) ?_
  intro p e s m below meth c hx hb hr hml hts hown hlocks hP hK hN hZ hD hS ls hl
  have hown : s.vm.findClass RX5 = some m.cls := hown
  have hl : lv_has ls 2 [(0, .ref om), (1, .int (nI u))] := hl
  have hinX5 : ∀ w ∈ u_ws RX5 TX5 16, w ∈ wsX5_canBe := by decide +kernel
  have hw80 := hts (.fieldLink RX5 80 "CornerLabelsModel" "looksFor" "I") (by decide +kernel)
  have hw83 := hts (.fieldLink RX5 83 "CornerLabelsModel" "best" "I") (by decide +kernel)
  suffices body : ∀ (H : Heap) (locs : List Loc), va_P D vwCl (MdW om xS xV xB xT xA xP xR cI thr mS mSv (nI q) mBf kLn mTl mAl mPl kBs (nI lf) kAt kWl mRd kRm hsh) H → va_D (wr_in (MdW om xS xV xB xT xA xP xR cI thr mS mSv (nI q) mBf kLn mTl mAl mPl kBs (nI lf) kAt kWl mRd kRm hsh)) (MdW om xS xV xB xT xA xP xR cI thr mS mSv (nI q) mBf kLn mTl mAl mPl kBs (nI lf) kAt kWl mRd kRm hsh) → va_S (wr_in (MdW om xS xV xB xT xA xP xR cI thr mS mSv (nI q) mBf kLn mTl mAl mPl kBs (nI lf) kAt kWl mRd kRm hsh)) s.heap H locs → wr_W p l e wsX5_canBe ({ frames := 3, cells := 0, slots := 0, locals := 67 } : Room) s m [.ref om, .int (nI u)] below meth c D (MdW om xS xV xB xT xA xP xR cI thr mS mSv (nI q) mBf kLn mTl mAl mPl kBs (nI lf) kAt kWl mRd kRm hsh) (fun v w9 => v = some (.int (bI (mCan lf n P t kBs u))) ∧ w9 = MdW om xS xV xB xT xA xP xR cI thr mS mSv (nI q) mBf kLn mTl mAl mPl kBs (nI lf) kAt kWl mRd kRm hsh) H locs (F0 m 0 ls []) from body _ _ hP hD hS
  clear hP hD hS
  intro H locs hP hD hS
  refine lv_aload_n hx hb dX5_canBe_0 rfl (lv_at hl 0 rfl) ?_
  refine va_get (D := D) (ci := 5) (v := .int (nI lf)) (C := RX5) (T := TX5) (N := 16) hx hb hts hinX5 hown hK hP 0 rfl rfl 10 (by decide) hw80 (fun _ h9 => h9) rfl dX5_canBe_1 ?_
  refine lv_iconst (v := 2) hx hb dX5_canBe_4 (by decide) ?_
  refine rd_icmp_eq_n (a := lf) (b := 2) (tgt := 16) (by omega) (by omega) hx hb dX5_canBe_5 (by decide) (fun c_5 => ?_) (fun c_5 => ?_)
  · refine lv_iconst (v := 1) hx hb dX5_canBe_16 (by decide) ?_
    exact wr_zret (b := true) hx hb hr hlocks hP hS rfl dX5_canBe_17 (by exact ⟨by simp [mCan, bI, c_5], rfl⟩)
  · refine lv_aload_n hx hb dX5_canBe_8 rfl (lv_at hl 0 rfl) ?_
    refine va_get (D := D) (ci := 5) (v := .int kBs) (C := RX5) (T := TX5) (N := 16) hx hb hts hinX5 hown hK hP 0 rfl rfl 9 (by decide) hw83 (fun _ h9 => h9) rfl dX5_canBe_9 ?_
    refine lv_iconst (v := (-1)) hx hb dX5_canBe_12 (by decide) ?_
    refine lv_icmp_ne (tgt := 18) hx hb dX5_canBe_13 (by decide) (fun c_13 => ?_) (fun c_13 => ?_)
    · refine lv_aload_n hx hb dX5_canBe_18 rfl (lv_at hl 0 rfl) ?_
      refine va_get (D := D) (ci := 5) (v := .int (nI lf)) (C := RX5) (T := TX5) (N := 16) hx hb hts hinX5 hown hK hP 0 rfl rfl 10 (by decide) hw80 (fun _ h9 => h9) rfl dX5_canBe_19 ?_
      refine lv_if_ne (tgt := 51) hx hb dX5_canBe_22 (by decide) (fun c_22 => ?_) (fun c_22 => ?_)
      · have c_22n := nI0_ne c_22
        refine lv_aload_n hx hb dX5_canBe_51 rfl (lv_at hl 0 rfl) ?_
        refine lv_iload_n hx hb dX5_canBe_52 rfl (lv_at hl 1 rfl) ?_
        refine wr_callV (As := [.int (nI u)]) (rest := []) ⟨hx, hb, hml, hown, hts⟩ (c_X5_worth (P := P) l D (q := q) hq6 hn8 hQ hbk (lf := lf) hlf (t := t) (u := u) hu ht ht4) (cwV 1 hts gX5_canBe_X5_worth rfl rfl rfl (by decide +kernel) ⟨by decide, by decide⟩) hK hN hZ hP hD hS [0, 1, 2, 3, 4, 5, 6, 7] [0] rfl (by decide) rfl (q0 := 0) rfl rfl rfl hl.1 rfl (Nat.le_of_ble_eq_true rfl) ⟨by decide, by decide⟩ dX5_canBe_53 (fun v9 w9 H locs hp9 hP hD hS => ?_)
        obtain ⟨rfl, rfl⟩ := hp9
        have hP : va_P D vwCl (MdW om xS xV xB xT xA xP xR cI thr mS mSv (nI q) mBf kLn mTl mAl mPl kBs (nI lf) kAt kWl mRd kRm hsh) H := hP
        have hD : va_D (wr_in (MdW om xS xV xB xT xA xP xR cI thr mS mSv (nI q) mBf kLn mTl mAl mPl kBs (nI lf) kAt kWl mRd kRm hsh)) (MdW om xS xV xB xT xA xP xR cI thr mS mSv (nI q) mBf kLn mTl mAl mPl kBs (nI lf) kAt kWl mRd kRm hsh) := hD
        refine W.eq (g2 := F0 m 56 ls [.int (mWo lf P t u)]) rfl ?_
        refine lv_aload_n hx hb dX5_canBe_56 rfl (lv_at hl 0 rfl) ?_
        refine va_get (D := D) (ci := 5) (v := .int kBs) (C := RX5) (T := TX5) (N := 16) hx hb hts hinX5 hown hK hP 0 rfl rfl 9 (by decide) hw83 (fun _ h9 => h9) rfl dX5_canBe_57 ?_
        refine lv_icmp_ge (tgt := 67) hx hb dX5_canBe_60 (by decide) (fun c_60 => ?_) (fun c_60 => ?_)
        · have c_60n := Int32.not_lt.mpr c_60
          refine lv_iconst (v := 0) hx hb dX5_canBe_67 (by decide) ?_
          exact wr_zret (b := false) hx hb hr hlocks hP hS rfl dX5_canBe_68 (by exact ⟨by unfold mCan; rw [if_neg (by simp [c_5, c_13]), if_neg c_22n]; simp [bI, c_60, c_60n], rfl⟩)
        · have c_60n := Int32.not_le.mp c_60
          refine lv_iconst (v := 1) hx hb dX5_canBe_63 (by decide) ?_
          refine lv_goto (tgt := 68) hx hb dX5_canBe_64 (by decide) ?_
          exact wr_zret (b := true) hx hb hr hlocks hP hS rfl dX5_canBe_68 (by exact ⟨by unfold mCan; rw [if_neg (by simp [c_5, c_13]), if_neg c_22n]; simp [bI, c_60, c_60n], rfl⟩)
      · have c_22n := nI0_eq (by omega) c_22
        refine lv_aload_n hx hb dX5_canBe_25 rfl (lv_at hl 0 rfl) ?_
        refine lv_iload_n hx hb dX5_canBe_26 rfl (lv_at hl 1 rfl) ?_
        refine wr_callV (As := [.int (nI u)]) (rest := []) ⟨hx, hb, hml, hown, hts⟩ (c_X5_worth (P := P) l D (q := q) hq6 hn8 hQ hbk (lf := lf) hlf (t := t) (u := u) hu ht ht4) (cwV 1 hts gX5_canBe_X5_worth rfl rfl rfl (by decide +kernel) ⟨by decide, by decide⟩) hK hN hZ hP hD hS [0, 1, 2, 3, 4, 5, 6, 7] [0] rfl (by decide) rfl (q0 := 0) rfl rfl rfl hl.1 rfl (Nat.le_of_ble_eq_true rfl) ⟨by decide, by decide⟩ dX5_canBe_27 (fun v9 w9 H locs hp9 hP hD hS => ?_)
        obtain ⟨rfl, rfl⟩ := hp9
        have hP : va_P D vwCl (MdW om xS xV xB xT xA xP xR cI thr mS mSv (nI q) mBf kLn mTl mAl mPl kBs (nI lf) kAt kWl mRd kRm hsh) H := hP
        have hD : va_D (wr_in (MdW om xS xV xB xT xA xP xR cI thr mS mSv (nI q) mBf kLn mTl mAl mPl kBs (nI lf) kAt kWl mRd kRm hsh)) (MdW om xS xV xB xT xA xP xR cI thr mS mSv (nI q) mBf kLn mTl mAl mPl kBs (nI lf) kAt kWl mRd kRm hsh) := hD
        refine W.eq (g2 := F0 m 30 ls [.int (mWo lf P t u)]) rfl ?_
        refine lv_aload_n hx hb dX5_canBe_30 rfl (lv_at hl 0 rfl) ?_
        refine lv_iload_n hx hb dX5_canBe_31 rfl (lv_at hl 1 rfl) ?_
        refine wr_callV (As := [.int (nI u)]) (rest := [.int (mWo lf P t u)]) ⟨hx, hb, hml, hown, hts⟩ (c_X5_weightFrom (P := P) l D (q := q) hq6 hn8 hQ hbk (lf := lf) hlf (t := t) (u := u) (by omega)) (cwV 1 hts gX5_canBe_X5_weightFrom rfl rfl rfl (by decide +kernel) ⟨by decide, by decide⟩) hK hN hZ hP hD hS [0, 1, 2, 3, 4, 5, 6, 7] [0] rfl (by decide) rfl (q0 := 0) rfl rfl rfl hl.1 rfl (Nat.le_of_ble_eq_true rfl) ⟨by decide, by decide⟩ dX5_canBe_32 (fun v9 w9 H locs hp9 hP hD hS => ?_)
        obtain ⟨rfl, rfl⟩ := hp9
        have hP : va_P D vwCl (MdW om xS xV xB xT xA xP xR cI thr mS mSv (nI q) mBf kLn mTl mAl mPl kBs (nI lf) kAt kWl mRd kRm hsh) H := hP
        have hD : va_D (wr_in (MdW om xS xV xB xT xA xP xR cI thr mS mSv (nI q) mBf kLn mTl mAl mPl kBs (nI lf) kAt kWl mRd kRm hsh)) (MdW om xS xV xB xT xA xP xR cI thr mS mSv (nI q) mBf kLn mTl mAl mPl kBs (nI lf) kAt kWl mRd kRm hsh) := hD
        refine W.eq (g2 := F0 m 35 ls [.int (mWt n P u), .int (mWo lf P t u)]) rfl ?_
        refine lv_iadd hx hb dX5_canBe_35 ?_
        refine lv_aload_n hx hb dX5_canBe_36 rfl (lv_at hl 0 rfl) ?_
        refine va_get (D := D) (ci := 5) (v := .int kBs) (C := RX5) (T := TX5) (N := 16) hx hb hts hinX5 hown hK hP 0 rfl rfl 9 (by decide) hw83 (fun _ h9 => h9) rfl dX5_canBe_37 ?_
        refine lv_icmp_le (tgt := 47) hx hb dX5_canBe_40 (by decide) (fun c_40 => ?_) (fun c_40 => ?_)
        · have c_40n := Int32.not_lt.mpr c_40
          refine lv_iconst (v := 0) hx hb dX5_canBe_47 (by decide) ?_
          refine lv_goto (tgt := 68) hx hb dX5_canBe_48 (by decide) ?_
          exact wr_zret (b := false) hx hb hr hlocks hP hS rfl dX5_canBe_68 (by exact ⟨by unfold mCan; rw [if_neg (by simp [c_5, c_13]), if_pos c_22n]; simp [bI, c_40, c_40n], rfl⟩)
        · have c_40n := Int32.not_le.mp c_40
          refine lv_iconst (v := 1) hx hb dX5_canBe_43 (by decide) ?_
          refine lv_goto (tgt := 68) hx hb dX5_canBe_44 (by decide) ?_
          exact wr_zret (b := true) hx hb hr hlocks hP hS rfl dX5_canBe_68 (by exact ⟨by unfold mCan; rw [if_neg (by simp [c_5, c_13]), if_pos c_22n]; simp [bI, c_40, c_40n], rfl⟩)
    · refine lv_iconst (v := 1) hx hb dX5_canBe_16 (by decide) ?_
      exact wr_zret (b := true) hx hb hr hlocks hP hS rfl dX5_canBe_17 (by exact ⟨by simp [mCan, bI, c_5, c_13], rfl⟩)
set_option maxHeartbeats 4000000 in
set_option maxRecDepth 100000 in
theorem c_X5_looksAt (l : Launch) (D : va_G) {om xS xV xB xT xA xP xR : Nat} {cI : ClassId} {thr kLn kBs kAt kWl kRm : Int32} {hsh : Int64} {mS mSv mBf mTl mAl mPl mRd : Nat → Int32} {n : Nat} {P : Nat → Nat → Int32} {q : Nat} (hq6 : q ≤ 6) (hn8 : n ≤ 8) (hQ : mdS n P mS) (hbk : bd_ok n P) {lf : Nat} (hlf : lf < 3) {t : Nat → Nat} (ht : ∀ j, j < n → mTl j = nI (t j)) (ht4 : ∀ j, j < n → t j ≤ 4) : wr_M l yX5_looksAt wsX5_looksAt ({ frames := 4, cells := 0, slots := 0, locals := 88 } : Room) D (MdW om xS xV xB xT xA xP xR cI thr mS mSv (nI q) mBf kLn mTl mAl mPl kBs (nI lf) kAt kWl mRd kRm hsh) [(cI, .int)] [.ref om] (fun v w9 => v = none ∧ w9 = MdW om xS xV xB xT xA xP xR cI thr mS mSv (nI q) mBf kLn mTl mAl ((mLk lf n P t (kBs, mPl)).2) ((mLk lf n P t (kBs, mPl)).1) (nI lf) kAt kWl mRd kRm hsh) := by
  refine wr_of (cc := cX5_looksAt) (maxL := 2) (ret := none) (by decide) rfl (Nat.le_of_ble_eq_true rfl) ?_
  intro p e s m below meth c hx hb hr hml hts hown hlocks hP hK hN hZ hD hS ls hl
  have hown : s.vm.findClass RX5 = some m.cls := hown
  have hl : lv_has ls 2 [(0, .ref om)] := hl
  have hinX5 : ∀ w ∈ u_ws RX5 TX5 16, w ∈ wsX5_looksAt := by decide +kernel
  have hw80 := hts (.fieldLink RX5 80 "CornerLabelsModel" "looksFor" "I") (by decide +kernel)
  have hw7 := hts (.fieldLink RX5 7 "CornerLabelsModel" "s" "[I") (by decide +kernel)
  have hw83 := hts (.fieldLink RX5 83 "CornerLabelsModel" "best" "I") (by decide +kernel)
  have hw25 := hts (.fieldLink RX5 25 "CornerLabelsModel" "plan" "[I") (by decide +kernel)
  have hw19 := hts (.fieldLink RX5 19 "CornerLabelsModel" "told" "[I") (by decide +kernel)
  suffices body : ∀ (H : Heap) (locs : List Loc), va_P D vwCl (MdW om xS xV xB xT xA xP xR cI thr mS mSv (nI q) mBf kLn mTl mAl mPl kBs (nI lf) kAt kWl mRd kRm hsh) H → va_D (wr_in (MdW om xS xV xB xT xA xP xR cI thr mS mSv (nI q) mBf kLn mTl mAl mPl kBs (nI lf) kAt kWl mRd kRm hsh)) (MdW om xS xV xB xT xA xP xR cI thr mS mSv (nI q) mBf kLn mTl mAl mPl kBs (nI lf) kAt kWl mRd kRm hsh) → va_S (wr_in (MdW om xS xV xB xT xA xP xR cI thr mS mSv (nI q) mBf kLn mTl mAl mPl kBs (nI lf) kAt kWl mRd kRm hsh)) s.heap H locs → wr_W p l e wsX5_looksAt ({ frames := 4, cells := 0, slots := 0, locals := 88 } : Room) s m [.ref om] below meth c D (MdW om xS xV xB xT xA xP xR cI thr mS mSv (nI q) mBf kLn mTl mAl mPl kBs (nI lf) kAt kWl mRd kRm hsh) (fun v w9 => v = none ∧ w9 = MdW om xS xV xB xT xA xP xR cI thr mS mSv (nI q) mBf kLn mTl mAl ((mLk lf n P t (kBs, mPl)).2) ((mLk lf n P t (kBs, mPl)).1) (nI lf) kAt kWl mRd kRm hsh) H locs (F0 m 0 ls []) from body _ _ hP hD hS
  clear hP hD hS
  intro H locs hP hD hS
  refine lv_aload_n hx hb dX5_looksAt_0 rfl (lv_at hl 0 rfl) ?_
  refine va_get (D := D) (ci := 5) (v := .int (nI lf)) (C := RX5) (T := TX5) (N := 16) hx hb hts hinX5 hown hK hP 0 rfl rfl 10 (by decide) hw80 (fun _ h9 => h9) rfl dX5_looksAt_1 ?_
  refine lv_iconst (v := 2) hx hb dX5_looksAt_4 (by decide) ?_
  refine rd_icmp_ne_n (a := lf) (b := 2) (tgt := 21) (by omega) (by omega) hx hb dX5_looksAt_5 (by decide) (fun c_5 => ?_) (fun c_5 => ?_)
  · refine lv_aload_n hx hb dX5_looksAt_21 rfl (lv_at hl 0 rfl) ?_
    refine lv_aload_n hx hb dX5_looksAt_22 rfl (lv_at hl 0 rfl) ?_
    refine va_get (D := D) (ci := 5) (v := .ref xS) (C := RX5) (T := TX5) (N := 16) hx hb hts hinX5 hown hK hP 0 rfl rfl 1 (by decide) hw7 (fun _ h9 => h9) rfl dX5_looksAt_23 ?_
    refine lv_iconst (v := 0) hx hb dX5_looksAt_26 (by decide) ?_
    refine rd_ald (q0 := 1) (t0 := 0) (j := 0) (v := nI n) hx hb hK hP rfl rfl (rfl) (by omega) (by decide) (hQ.1) dX5_looksAt_27 ?_
    refine wr_callV (As := [.int (nI n)]) (rest := []) ⟨hx, hb, hml, hown, hts⟩ (c_X5_canBe (P := P) l D (q := q) hq6 hn8 hQ hbk (lf := lf) hlf (t := t) (u := n) (Nat.le_refl n) ht ht4) (cwV 1 hts gX5_looksAt_X5_canBe rfl rfl rfl (by decide +kernel) ⟨by decide, by decide⟩) hK hN hZ hP hD hS [0, 1, 2, 3, 4, 5, 6, 7] [0] rfl (by decide) rfl (q0 := 0) rfl rfl rfl hl.1 rfl (Nat.le_of_ble_eq_true rfl) ⟨by decide, by decide⟩ dX5_looksAt_28 (fun v9 w9 H locs hp9 hP hD hS => ?_)
    obtain ⟨rfl, rfl⟩ := hp9
    have hP : va_P D vwCl (MdW om xS xV xB xT xA xP xR cI thr mS mSv (nI q) mBf kLn mTl mAl mPl kBs (nI lf) kAt kWl mRd kRm hsh) H := hP
    have hD : va_D (wr_in (MdW om xS xV xB xT xA xP xR cI thr mS mSv (nI q) mBf kLn mTl mAl mPl kBs (nI lf) kAt kWl mRd kRm hsh)) (MdW om xS xV xB xT xA xP xR cI thr mS mSv (nI q) mBf kLn mTl mAl mPl kBs (nI lf) kAt kWl mRd kRm hsh) := hD
    refine W.eq (g2 := F0 m 31 ls [.int (bI (mCan lf n P t kBs n))]) rfl ?_
    refine rd_ifeq_b (tgt := 78) hx hb dX5_looksAt_31 (by decide) (fun c_31 => ?_) (fun c_31 => ?_)
    · exact wr_vret hx hb hr hlocks hP hS rfl dX5_looksAt_78 (by exact ⟨rfl, by simp [mLk, c_5, c_31]⟩)
    · refine lv_aload_n hx hb dX5_looksAt_34 rfl (lv_at hl 0 rfl) ?_
      refine lv_aload_n hx hb dX5_looksAt_35 rfl (lv_at hl 0 rfl) ?_
      refine lv_aload_n hx hb dX5_looksAt_36 rfl (lv_at hl 0 rfl) ?_
      refine va_get (D := D) (ci := 5) (v := .ref xS) (C := RX5) (T := TX5) (N := 16) hx hb hts hinX5 hown hK hP 0 rfl rfl 1 (by decide) hw7 (fun _ h9 => h9) rfl dX5_looksAt_37 ?_
      refine lv_iconst (v := 0) hx hb dX5_looksAt_40 (by decide) ?_
      refine rd_ald (q0 := 1) (t0 := 0) (j := 0) (v := nI n) hx hb hK hP rfl rfl (rfl) (by omega) (by decide) (hQ.1) dX5_looksAt_41 ?_
      refine wr_callV (As := [.int (nI n)]) (rest := [.ref om]) ⟨hx, hb, hml, hown, hts⟩ (c_X5_worth (P := P) l D (q := q) hq6 hn8 hQ hbk (lf := lf) hlf (t := t) (u := n) (Nat.le_refl n) ht ht4) (cwV 1 hts gX5_looksAt_X5_worth rfl rfl rfl (by decide +kernel) ⟨by decide, by decide⟩) hK hN hZ hP hD hS [0, 1, 2, 3, 4, 5, 6, 7] [0] rfl (by decide) rfl (q0 := 0) rfl rfl rfl hl.1 rfl (Nat.le_of_ble_eq_true rfl) ⟨by decide, by decide⟩ dX5_looksAt_42 (fun v9 w9 H locs hp9 hP hD hS => ?_)
      obtain ⟨rfl, rfl⟩ := hp9
      have hP : va_P D vwCl (MdW om xS xV xB xT xA xP xR cI thr mS mSv (nI q) mBf kLn mTl mAl mPl kBs (nI lf) kAt kWl mRd kRm hsh) H := hP
      have hD : va_D (wr_in (MdW om xS xV xB xT xA xP xR cI thr mS mSv (nI q) mBf kLn mTl mAl mPl kBs (nI lf) kAt kWl mRd kRm hsh)) (MdW om xS xV xB xT xA xP xR cI thr mS mSv (nI q) mBf kLn mTl mAl mPl kBs (nI lf) kAt kWl mRd kRm hsh) := hD
      refine W.eq (g2 := F0 m 45 ls [.int (mWo lf P t n), .ref om]) rfl ?_
      refine va_put (D := D) (ci := 5) (v := .int (mWo lf P t n)) (ty := .int) (C := RX5) (T := TX5) (N := 16) hx hb hts hinX5 tyX5 tyX5_ok nmX5 hown hK hP hD hS 0 rfl rfl 9 (by decide) hw83 (fun _ h9 => h9) rfl (by decide +kernel) rfl rfl (Nat.le_of_ble_eq_true rfl) dX5_looksAt_45 (fun H locs hP hD hS => ?_)
      have hP : va_P D vwCl (MdW om xS xV xB xT xA xP xR cI thr mS mSv (nI q) mBf kLn mTl mAl mPl (mWo lf P t n) (nI lf) kAt kWl mRd kRm hsh) H := hP
      have hD : va_D (wr_in (MdW om xS xV xB xT xA xP xR cI thr mS mSv (nI q) mBf kLn mTl mAl mPl kBs (nI lf) kAt kWl mRd kRm hsh)) (MdW om xS xV xB xT xA xP xR cI thr mS mSv (nI q) mBf kLn mTl mAl mPl (mWo lf P t n) (nI lf) kAt kWl mRd kRm hsh) := hD
      refine lv_iconst (v := 0) hx hb dX5_looksAt_48 (by decide) ?_
      refine lv_istore_n (lv' := [(1, .int 0), (0, .ref om)]) hx hb dX5_looksAt_49 rfl hl (by decide) rfl (fun ls hl => ?_)
      suffices loop50 : ∀ (k50 k : Nat) (p1 : Nat → Int32) (H : Heap) (locs : List Loc) (ls : Array Slot), k ≤ n → n + 1 ≤ k + k50 → (p1 = plS k t mPl) → va_P D vwCl (MdW om xS xV xB xT xA xP xR cI thr mS mSv (nI q) mBf kLn mTl mAl p1 (mWo lf P t n) (nI lf) kAt kWl mRd kRm hsh) H → va_D (wr_in (MdW om xS xV xB xT xA xP xR cI thr mS mSv (nI q) mBf kLn mTl mAl mPl kBs (nI lf) kAt kWl mRd kRm hsh)) (MdW om xS xV xB xT xA xP xR cI thr mS mSv (nI q) mBf kLn mTl mAl p1 (mWo lf P t n) (nI lf) kAt kWl mRd kRm hsh) → va_S (wr_in (MdW om xS xV xB xT xA xP xR cI thr mS mSv (nI q) mBf kLn mTl mAl mPl kBs (nI lf) kAt kWl mRd kRm hsh)) s.heap H locs → lv_has ls 2 [(0, .ref om), (1, .int (nI k))] → wr_W p l e wsX5_looksAt ({ frames := 4, cells := 0, slots := 0, locals := 88 } : Room) s m [.ref om] below meth c D (MdW om xS xV xB xT xA xP xR cI thr mS mSv (nI q) mBf kLn mTl mAl mPl kBs (nI lf) kAt kWl mRd kRm hsh) (fun v w9 => v = none ∧ w9 = MdW om xS xV xB xT xA xP xR cI thr mS mSv (nI q) mBf kLn mTl mAl ((mLk lf n P t (kBs, mPl)).2) ((mLk lf n P t (kBs, mPl)).1) (nI lf) kAt kWl mRd kRm hsh) H locs (F0 m 50 ls []) from
        loop50 (n + 1) 0 mPl H locs ls (by omega) (by omega) (by exact plS_0) hP hD hS (lv_sub hl [1, 0] rfl)
      intro k50
      induction k50 with
      | zero => intro k p1 H locs ls h1 h2; exact absurd h2 (by omega)
      | succ k50 ih50 =>
        intro k p1 H locs ls hle50 hlt50 inv50 hP hD hS hl
        refine lv_iload_n hx hb dX5_looksAt_50 rfl (lv_at hl 1 rfl) ?_
        refine lv_aload_n hx hb dX5_looksAt_51 rfl (lv_at hl 0 rfl) ?_
        refine va_get (D := D) (ci := 5) (v := .ref xS) (C := RX5) (T := TX5) (N := 16) hx hb hts hinX5 hown hK hP 0 rfl rfl 1 (by decide) hw7 (fun _ h9 => h9) rfl dX5_looksAt_52 ?_
        refine lv_iconst (v := 0) hx hb dX5_looksAt_55 (by decide) ?_
        refine rd_ald (q0 := 1) (t0 := 0) (j := 0) (v := nI n) hx hb hK hP rfl rfl (rfl) (by omega) (by decide) (hQ.1) dX5_looksAt_56 ?_
        refine rd_icmp_ge_n (a := k) (b := n) (tgt := 78) (by omega) (by omega) hx hb dX5_looksAt_57 (by decide) (fun c_57 => ?_) (fun c_57 => ?_)
        · have c_57n := Nat.not_lt.mpr c_57
          exact wr_vret hx hb hr hlocks hP hS rfl dX5_looksAt_78 (by exact ⟨rfl, by rw [inv50, show k = n by omega]; simp [mLk, c_5, c_31]⟩)
        · have c_57n := Nat.not_le.mpr c_57
          have t4_60 := ht4 k c_57
          refine lv_aload_n hx hb dX5_looksAt_60 rfl (lv_at hl 0 rfl) ?_
          refine va_get (D := D) (ci := 5) (v := .ref xP) (C := RX5) (T := TX5) (N := 16) hx hb hts hinX5 hown hK hP 0 rfl rfl 8 (by decide) hw25 (fun _ h9 => h9) rfl dX5_looksAt_61 ?_
          refine lv_iload_n hx hb dX5_looksAt_64 rfl (lv_at hl 1 rfl) ?_
          refine lv_aload_n hx hb dX5_looksAt_65 rfl (lv_at hl 0 rfl) ?_
          refine va_get (D := D) (ci := 5) (v := .ref xT) (C := RX5) (T := TX5) (N := 16) hx hb hts hinX5 hown hK hP 0 rfl rfl 6 (by decide) hw19 (fun _ h9 => h9) rfl dX5_looksAt_66 ?_
          refine lv_iload_n hx hb dX5_looksAt_69 rfl (lv_at hl 1 rfl) ?_
          refine rd_ald (q0 := 4) (t0 := 0) (j := k) (v := nI (t k)) hx hb hK hP rfl rfl (rfl) (by omega) (by decide) (ht k (by omega)) dX5_looksAt_70 ?_
          refine wr_ast (q0 := 6) (t0 := 0) (j := k) hx hb hK hP hD hS rfl rfl (rfl) (by omega) (by decide) dX5_looksAt_71 (fun H locs hP hD hS => ?_)
          obtain ⟨mPl_71, emPl_71⟩ : ∃ zz9 : Nat → Int32, zz9 = upd p1 k (nI (t k)) := ⟨_, rfl⟩
          rw [← emPl_71] at hP hD
          have hP : va_P D vwCl (MdW om xS xV xB xT xA xP xR cI thr mS mSv (nI q) mBf kLn mTl mAl mPl_71 (mWo lf P t n) (nI lf) kAt kWl mRd kRm hsh) H := hP
          have hD : va_D (wr_in (MdW om xS xV xB xT xA xP xR cI thr mS mSv (nI q) mBf kLn mTl mAl mPl kBs (nI lf) kAt kWl mRd kRm hsh)) (MdW om xS xV xB xT xA xP xR cI thr mS mSv (nI q) mBf kLn mTl mAl mPl_71 (mWo lf P t n) (nI lf) kAt kWl mRd kRm hsh) := hD
          refine lv_iinc (v := nI (k + 1)) (lv' := [(1, .int (nI (k + 1))), (0, .ref om)]) hx hb dX5_looksAt_72 hl (k := 1) rfl (nI_add k 1) (by decide) rfl (fun ls hl => ?_)
          refine lv_goto (tgt := 50) hx hb dX5_looksAt_75 (by decide) ?_
          exact ih50 (k + 1) mPl_71 H locs ls (by omega) (by omega) (by exact plS_step ht c_57 inv50 emPl_71) hP hD hS (lv_sub hl [1, 0] rfl)
  · refine lv_aload_n hx hb dX5_looksAt_8 rfl (lv_at hl 0 rfl) ?_
    refine lv_dup hx hb dX5_looksAt_9 rfl ?_
    refine va_get (D := D) (ci := 5) (v := .int kBs) (C := RX5) (T := TX5) (N := 16) hx hb hts hinX5 hown hK hP 0 rfl rfl 9 (by decide) hw83 (fun _ h9 => h9) rfl dX5_looksAt_10 ?_
    refine lv_iconst (v := 1) hx hb dX5_looksAt_13 (by decide) ?_
    refine lv_iadd hx hb dX5_looksAt_14 ?_
    refine va_put (D := D) (ci := 5) (v := .int (kBs + 1)) (ty := .int) (C := RX5) (T := TX5) (N := 16) hx hb hts hinX5 tyX5 tyX5_ok nmX5 hown hK hP hD hS 0 rfl rfl 9 (by decide) hw83 (fun _ h9 => h9) rfl (by decide +kernel) rfl rfl (Nat.le_of_ble_eq_true rfl) dX5_looksAt_15 (fun H locs hP hD hS => ?_)
    have hP : va_P D vwCl (MdW om xS xV xB xT xA xP xR cI thr mS mSv (nI q) mBf kLn mTl mAl mPl (kBs + 1) (nI lf) kAt kWl mRd kRm hsh) H := hP
    have hD : va_D (wr_in (MdW om xS xV xB xT xA xP xR cI thr mS mSv (nI q) mBf kLn mTl mAl mPl kBs (nI lf) kAt kWl mRd kRm hsh)) (MdW om xS xV xB xT xA xP xR cI thr mS mSv (nI q) mBf kLn mTl mAl mPl (kBs + 1) (nI lf) kAt kWl mRd kRm hsh) := hD
    refine lv_goto (tgt := 78) hx hb dX5_looksAt_18 (by decide) ?_
    exact wr_vret hx hb hr hlocks hP hS rfl dX5_looksAt_78 (by exact ⟨rfl, by simp [mLk, c_5]⟩)
