set_option maxHeartbeats 4000000 in
set_option maxRecDepth 100000 in
theorem c_X5_readsPoint (l : Launch) (D : va_G) {om xS xV xB xT xA xP xR : Nat} {cI : ClassId} {thr kSm kBs kLf : Int32} {hsh : Int64} {mS mSv mBf mTl mAl mPl mRd : Nat → Int32} {a b : Nat} {w : Bool} (hb60 : b ≤ 60) (ha : a ≤ b) {rm : Nat} (hrm : rm ≤ 15) : wr_M l yX5_readsPoint wsX5_readsPoint ({ frames := 2, cells := 0, slots := 0, locals := 45 } : Room) D (MdW om xS xV xB xT xA xP xR cI thr mS mSv kSm mBf (nI b) mTl mAl mPl kBs kLf (nI a) (bI w) mRd (nI rm) hsh) [(cI, .int)] [.ref om] (fun v w9 => v = none ∧ w9 = MdW om xS xV xB xT xA xP xR cI thr mS mSv kSm mBf (nI b) mTl mAl mPl kBs kLf (nI ((psP mBf b rm (w, a, mRd)).2.1)) (bI ((psP mBf b rm (w, a, mRd)).1)) ((psP mBf b rm (w, a, mRd)).2.2) (nI (if (psP mBf b rm (w, a, mRd)).1 = true then rm + 1 else rm)) hsh) := by
  refine wr_of (cc := cX5_readsPoint) (maxL := 2) (ret := none) (by decide) rfl (Nat.le_of_ble_eq_true rfl) ?_
  intro p e s m below meth c hx hb hr hml hts hown hlocks hP hK hN hZ hD hS ls hl
  have hown : s.vm.findClass RX5 = some m.cls := hown
  have hl : lv_has ls 2 [(0, .ref om)] := hl
  have hinX5 : ∀ w ∈ u_ws RX5 TX5 16, w ∈ wsX5_readsPoint := by decide +kernel
  have hw167 := hts (.fieldLink RX5 167 "CornerLabelsModel" "readMany" "I") (by decide +kernel)
  have hw28 := hts (.fieldLink RX5 28 "CornerLabelsModel" "read" "[I") (by decide +kernel)
  have hw160 := hts (.fieldLink RX5 160 "CornerLabelsModel" "isWell" "Z") (by decide +kernel)
  suffices body : ∀ (H : Heap) (locs : List Loc), va_P D vwCl (MdW om xS xV xB xT xA xP xR cI thr mS mSv kSm mBf (nI b) mTl mAl mPl kBs kLf (nI a) (bI w) mRd (nI rm) hsh) H → va_D (wr_in (MdW om xS xV xB xT xA xP xR cI thr mS mSv kSm mBf (nI b) mTl mAl mPl kBs kLf (nI a) (bI w) mRd (nI rm) hsh)) (MdW om xS xV xB xT xA xP xR cI thr mS mSv kSm mBf (nI b) mTl mAl mPl kBs kLf (nI a) (bI w) mRd (nI rm) hsh) → va_S (wr_in (MdW om xS xV xB xT xA xP xR cI thr mS mSv kSm mBf (nI b) mTl mAl mPl kBs kLf (nI a) (bI w) mRd (nI rm) hsh)) s.heap H locs → wr_W p l e wsX5_readsPoint ({ frames := 2, cells := 0, slots := 0, locals := 45 } : Room) s m [.ref om] below meth c D (MdW om xS xV xB xT xA xP xR cI thr mS mSv kSm mBf (nI b) mTl mAl mPl kBs kLf (nI a) (bI w) mRd (nI rm) hsh) (fun v w9 => v = none ∧ w9 = MdW om xS xV xB xT xA xP xR cI thr mS mSv kSm mBf (nI b) mTl mAl mPl kBs kLf (nI ((psP mBf b rm (w, a, mRd)).2.1)) (bI ((psP mBf b rm (w, a, mRd)).1)) ((psP mBf b rm (w, a, mRd)).2.2) (nI (if (psP mBf b rm (w, a, mRd)).1 = true then rm + 1 else rm)) hsh) H locs (F0 m 0 ls []) from body _ _ hP hD hS
  clear hP hD hS
  intro H locs hP hD hS
  refine lv_iconst (v := 5) hx hb dX5_readsPoint_0 (by decide) ?_
  refine lv_aload_n hx hb dX5_readsPoint_1 rfl (lv_at hl 0 rfl) ?_
  refine va_get (D := D) (ci := 5) (v := .int (nI rm)) (C := RX5) (T := TX5) (N := 16) hx hb hts hinX5 hown hK hP 0 rfl rfl 14 (by decide) hw167 (fun _ h9 => h9) rfl dX5_readsPoint_2 ?_
  refine lv_imul hx hb dX5_readsPoint_5 ?_
  refine lv_asi (y := nI (5 * rm)) (pk_mul 5 rm) ?_
  refine lv_istore_n (lv' := [(1, .int (nI (5 * rm))), (0, .ref om)]) hx hb dX5_readsPoint_6 rfl hl (by decide) rfl (fun ls hl => ?_)
  refine lv_aload_n hx hb dX5_readsPoint_7 rfl (lv_at hl 1 rfl) ?_
  refine va_get (D := D) (ci := 5) (v := .ref xR) (C := RX5) (T := TX5) (N := 16) hx hb hts hinX5 hown hK hP 0 rfl rfl 13 (by decide) hw28 (fun _ h9 => h9) rfl dX5_readsPoint_8 ?_
  refine lv_iload_n hx hb dX5_readsPoint_11 rfl (lv_at hl 0 rfl) ?_
  refine lv_aload_n hx hb dX5_readsPoint_12 rfl (lv_at hl 1 rfl) ?_
  refine lv_iconst (v := 0) hx hb dX5_readsPoint_13 (by decide) ?_
  refine lv_bipush (v := 59) hx hb dX5_readsPoint_14 (by decide) ?_
  refine wr_callV (As := [.int 0, .int 59]) (rest := [.int (nI (5 * rm)), .ref xR]) ⟨hx, hb, hml, hown, hts⟩ (c_X5_number l D hb60 (a := a) (w := w) ha (Or.inl rfl) 59) (cwV 2 hts gX5_readsPoint_X5_number rfl rfl rfl (by decide +kernel) ⟨by decide, by decide⟩) hK hN hZ hP hD hS [0, 1, 2, 3, 4, 5, 6, 7] [0] rfl (by decide) rfl (q0 := 0) rfl rfl rfl hl.1 rfl (Nat.le_of_ble_eq_true rfl) ⟨by decide, by decide⟩ dX5_readsPoint_16 (fun v9 w9 H locs hp9 hP hD hS => ?_)
  obtain ⟨rfl, rfl⟩ := hp9
  have hP : va_P D vwCl (MdW om xS xV xB xT xA xP xR cI thr mS mSv kSm mBf (nI b) mTl mAl mPl kBs kLf (nI ((nmR mBf b w 0 59 a).2)) (bI (nmW mBf b w 0 a)) mRd (nI rm) hsh) H := hP
  have hD : va_D (wr_in (MdW om xS xV xB xT xA xP xR cI thr mS mSv kSm mBf (nI b) mTl mAl mPl kBs kLf (nI a) (bI w) mRd (nI rm) hsh)) (MdW om xS xV xB xT xA xP xR cI thr mS mSv kSm mBf (nI b) mTl mAl mPl kBs kLf (nI ((nmR mBf b w 0 59 a).2)) (bI (nmW mBf b w 0 a)) mRd (nI rm) hsh) := hD
  refine W.eq (g2 := F0 m 19 ls [.int ((nmR mBf b w 0 59 a).1), .int (nI (5 * rm)), .ref xR]) rfl ?_
  refine wr_ast (q0 := 7) (t0 := 0) (j := 5 * rm) hx hb hK hP hD hS rfl rfl (rfl) (by omega) (by decide) dX5_readsPoint_19 (fun H locs hP hD hS => ?_)
  obtain ⟨mRd_19, emRd_19⟩ : ∃ zz9 : Nat → Int32, zz9 = upd mRd (5 * rm) ((nmR mBf b w 0 59 a).1) := ⟨_, rfl⟩
  rw [← emRd_19] at hP hD
  have hP : va_P D vwCl (MdW om xS xV xB xT xA xP xR cI thr mS mSv kSm mBf (nI b) mTl mAl mPl kBs kLf (nI ((nmR mBf b w 0 59 a).2)) (bI (nmW mBf b w 0 a)) mRd_19 (nI rm) hsh) H := hP
  have hD : va_D (wr_in (MdW om xS xV xB xT xA xP xR cI thr mS mSv kSm mBf (nI b) mTl mAl mPl kBs kLf (nI a) (bI w) mRd (nI rm) hsh)) (MdW om xS xV xB xT xA xP xR cI thr mS mSv kSm mBf (nI b) mTl mAl mPl kBs kLf (nI ((nmR mBf b w 0 59 a).2)) (bI (nmW mBf b w 0 a)) mRd_19 (nI rm) hsh) := hD
  obtain ⟨s1, es1⟩ : ∃ z : PS, z = psN mBf b (5 * rm) 0 59 (w, a, mRd) := ⟨_, rfl⟩
  rw [emRd_19] at hP hD
  have hP : va_P D vwCl (MdW om xS xV xB xT xA xP xR cI thr mS mSv kSm mBf (nI b) mTl mAl mPl kBs kLf (nI s1.2.1) (bI s1.1) s1.2.2 (nI rm) hsh) H := by rw [es1]; exact hP
  have hD : va_D (wr_in (MdW om xS xV xB xT xA xP xR cI thr mS mSv kSm mBf (nI b) mTl mAl mPl kBs kLf (nI a) (bI w) mRd (nI rm) hsh)) (MdW om xS xV xB xT xA xP xR cI thr mS mSv kSm mBf (nI b) mTl mAl mPl kBs kLf (nI s1.2.1) (bI s1.1) s1.2.2 (nI rm) hsh) := by rw [es1]; exact hD
  have hs1 : s1.2.1 ≤ b := by rw [es1]; exact psN_le (Or.inl rfl) ha
  refine lv_aload_n hx hb dX5_readsPoint_20 rfl (lv_at hl 1 rfl) ?_
  refine lv_aload_n hx hb dX5_readsPoint_21 rfl (lv_at hl 1 rfl) ?_
  refine lv_bipush (v := 44) hx hb dX5_readsPoint_22 (by decide) ?_
  refine wr_callV (As := [.int 44]) (rest := [.ref om]) ⟨hx, hb, hml, hown, hts⟩ (c_X5_takes l D hb60 (a := s1.2.1) (w := s1.1) hs1 44) (cwV 1 hts gX5_readsPoint_X5_takes rfl rfl rfl (by decide +kernel) ⟨by decide, by decide⟩) hK hN hZ hP hD hS [0, 1, 2, 3, 4, 5, 6, 7] [0] rfl (by decide) rfl (q0 := 0) rfl rfl rfl hl.1 rfl (Nat.le_of_ble_eq_true rfl) ⟨by decide, by decide⟩ dX5_readsPoint_24 (fun v9 w9 H locs hp9 hP hD hS => ?_)
  obtain ⟨rfl, rfl⟩ := hp9
  have hP : va_P D vwCl (MdW om xS xV xB xT xA xP xR cI thr mS mSv kSm mBf (nI b) mTl mAl mPl kBs kLf (nI (if tkB mBf b s1.1 44 s1.2.1 = true then s1.2.1 + 1 else s1.2.1)) (bI s1.1) s1.2.2 (nI rm) hsh) H := hP
  have hD : va_D (wr_in (MdW om xS xV xB xT xA xP xR cI thr mS mSv kSm mBf (nI b) mTl mAl mPl kBs kLf (nI a) (bI w) mRd (nI rm) hsh)) (MdW om xS xV xB xT xA xP xR cI thr mS mSv kSm mBf (nI b) mTl mAl mPl kBs kLf (nI (if tkB mBf b s1.1 44 s1.2.1 = true then s1.2.1 + 1 else s1.2.1)) (bI s1.1) s1.2.2 (nI rm) hsh) := hD
  refine W.eq (g2 := F0 m 27 ls [.int (bI (tkB mBf b s1.1 44 s1.2.1)), .ref om]) rfl ?_
  refine va_put (D := D) (ci := 5) (v := .int (bI (tkB mBf b s1.1 44 s1.2.1))) (ty := .boolean) (C := RX5) (T := TX5) (N := 16) hx hb hts hinX5 tyX5 tyX5_ok nmX5 hown hK hP hD hS 0 rfl rfl 12 (by decide) hw160 (fun _ h9 => h9) rfl (by decide +kernel) (bI_n _) (bI_fit _) (Nat.le_of_ble_eq_true rfl) dX5_readsPoint_27 (fun H locs hP hD hS => ?_)
  have hP : va_P D vwCl (MdW om xS xV xB xT xA xP xR cI thr mS mSv kSm mBf (nI b) mTl mAl mPl kBs kLf (nI (if tkB mBf b s1.1 44 s1.2.1 = true then s1.2.1 + 1 else s1.2.1)) (bI (tkB mBf b s1.1 44 s1.2.1)) s1.2.2 (nI rm) hsh) H := hP
  have hD : va_D (wr_in (MdW om xS xV xB xT xA xP xR cI thr mS mSv kSm mBf (nI b) mTl mAl mPl kBs kLf (nI a) (bI w) mRd (nI rm) hsh)) (MdW om xS xV xB xT xA xP xR cI thr mS mSv kSm mBf (nI b) mTl mAl mPl kBs kLf (nI (if tkB mBf b s1.1 44 s1.2.1 = true then s1.2.1 + 1 else s1.2.1)) (bI (tkB mBf b s1.1 44 s1.2.1)) s1.2.2 (nI rm) hsh) := hD
  obtain ⟨s2, es2⟩ : ∃ z : PS, z = psT mBf b 44 s1 := ⟨_, rfl⟩
  have hP : va_P D vwCl (MdW om xS xV xB xT xA xP xR cI thr mS mSv kSm mBf (nI b) mTl mAl mPl kBs kLf (nI s2.2.1) (bI s2.1) s2.2.2 (nI rm) hsh) H := by rw [es2]; exact hP
  have hD : va_D (wr_in (MdW om xS xV xB xT xA xP xR cI thr mS mSv kSm mBf (nI b) mTl mAl mPl kBs kLf (nI a) (bI w) mRd (nI rm) hsh)) (MdW om xS xV xB xT xA xP xR cI thr mS mSv kSm mBf (nI b) mTl mAl mPl kBs kLf (nI s2.2.1) (bI s2.1) s2.2.2 (nI rm) hsh) := by rw [es2]; exact hD
  have hs2 : s2.2.1 ≤ b := by rw [es2]; exact psT_le (by decide) hs1
  refine lv_aload_n hx hb dX5_readsPoint_30 rfl (lv_at hl 1 rfl) ?_
  refine va_get (D := D) (ci := 5) (v := .ref xR) (C := RX5) (T := TX5) (N := 16) hx hb hts hinX5 hown hK hP 0 rfl rfl 13 (by decide) hw28 (fun _ h9 => h9) rfl dX5_readsPoint_31 ?_
  refine lv_iload_n hx hb dX5_readsPoint_34 rfl (lv_at hl 0 rfl) ?_
  refine lv_iconst (v := 1) hx hb dX5_readsPoint_35 (by decide) ?_
  refine lv_iadd hx hb dX5_readsPoint_36 ?_
  refine lv_asi (y := nI ((5 * rm) + 1)) (nI_add (5 * rm) 1) ?_
  refine lv_aload_n hx hb dX5_readsPoint_37 rfl (lv_at hl 1 rfl) ?_
  refine lv_iconst (v := 0) hx hb dX5_readsPoint_38 (by decide) ?_
  refine lv_bipush (v := 39) hx hb dX5_readsPoint_39 (by decide) ?_
  refine wr_callV (As := [.int 0, .int 39]) (rest := [.int (nI ((5 * rm) + 1)), .ref xR]) ⟨hx, hb, hml, hown, hts⟩ (c_X5_number l D hb60 (a := s2.2.1) (w := s2.1) hs2 (Or.inl rfl) 39) (cwV 2 hts gX5_readsPoint_X5_number rfl rfl rfl (by decide +kernel) ⟨by decide, by decide⟩) hK hN hZ hP hD hS [0, 1, 2, 3, 4, 5, 6, 7] [0] rfl (by decide) rfl (q0 := 0) rfl rfl rfl hl.1 rfl (Nat.le_of_ble_eq_true rfl) ⟨by decide, by decide⟩ dX5_readsPoint_41 (fun v9 w9 H locs hp9 hP hD hS => ?_)
  obtain ⟨rfl, rfl⟩ := hp9
  have hP : va_P D vwCl (MdW om xS xV xB xT xA xP xR cI thr mS mSv kSm mBf (nI b) mTl mAl mPl kBs kLf (nI ((nmR mBf b s2.1 0 39 s2.2.1).2)) (bI (nmW mBf b s2.1 0 s2.2.1)) s2.2.2 (nI rm) hsh) H := hP
  have hD : va_D (wr_in (MdW om xS xV xB xT xA xP xR cI thr mS mSv kSm mBf (nI b) mTl mAl mPl kBs kLf (nI a) (bI w) mRd (nI rm) hsh)) (MdW om xS xV xB xT xA xP xR cI thr mS mSv kSm mBf (nI b) mTl mAl mPl kBs kLf (nI ((nmR mBf b s2.1 0 39 s2.2.1).2)) (bI (nmW mBf b s2.1 0 s2.2.1)) s2.2.2 (nI rm) hsh) := hD
  refine W.eq (g2 := F0 m 44 ls [.int ((nmR mBf b s2.1 0 39 s2.2.1).1), .int (nI ((5 * rm) + 1)), .ref xR]) rfl ?_
  refine wr_ast (q0 := 7) (t0 := 0) (j := (5 * rm) + 1) hx hb hK hP hD hS rfl rfl (rfl) (by omega) (by decide) dX5_readsPoint_44 (fun H locs hP hD hS => ?_)
  obtain ⟨mRd_44, emRd_44⟩ : ∃ zz9 : Nat → Int32, zz9 = upd s2.2.2 ((5 * rm) + 1) ((nmR mBf b s2.1 0 39 s2.2.1).1) := ⟨_, rfl⟩
  rw [← emRd_44] at hP hD
  have hP : va_P D vwCl (MdW om xS xV xB xT xA xP xR cI thr mS mSv kSm mBf (nI b) mTl mAl mPl kBs kLf (nI ((nmR mBf b s2.1 0 39 s2.2.1).2)) (bI (nmW mBf b s2.1 0 s2.2.1)) mRd_44 (nI rm) hsh) H := hP
  have hD : va_D (wr_in (MdW om xS xV xB xT xA xP xR cI thr mS mSv kSm mBf (nI b) mTl mAl mPl kBs kLf (nI a) (bI w) mRd (nI rm) hsh)) (MdW om xS xV xB xT xA xP xR cI thr mS mSv kSm mBf (nI b) mTl mAl mPl kBs kLf (nI ((nmR mBf b s2.1 0 39 s2.2.1).2)) (bI (nmW mBf b s2.1 0 s2.2.1)) mRd_44 (nI rm) hsh) := hD
  obtain ⟨s3, es3⟩ : ∃ z : PS, z = psN mBf b (5 * rm + 1) 0 39 s2 := ⟨_, rfl⟩
  rw [emRd_44] at hP hD
  have hP : va_P D vwCl (MdW om xS xV xB xT xA xP xR cI thr mS mSv kSm mBf (nI b) mTl mAl mPl kBs kLf (nI s3.2.1) (bI s3.1) s3.2.2 (nI rm) hsh) H := by rw [es3]; exact hP
  have hD : va_D (wr_in (MdW om xS xV xB xT xA xP xR cI thr mS mSv kSm mBf (nI b) mTl mAl mPl kBs kLf (nI a) (bI w) mRd (nI rm) hsh)) (MdW om xS xV xB xT xA xP xR cI thr mS mSv kSm mBf (nI b) mTl mAl mPl kBs kLf (nI s3.2.1) (bI s3.1) s3.2.2 (nI rm) hsh) := by rw [es3]; exact hD
  have hs3 : s3.2.1 ≤ b := by rw [es3]; exact psN_le (Or.inl rfl) hs2
  refine lv_aload_n hx hb dX5_readsPoint_45 rfl (lv_at hl 1 rfl) ?_
  refine lv_aload_n hx hb dX5_readsPoint_46 rfl (lv_at hl 1 rfl) ?_
  refine lv_bipush (v := 58) hx hb dX5_readsPoint_47 (by decide) ?_
  refine wr_callV (As := [.int 58]) (rest := [.ref om]) ⟨hx, hb, hml, hown, hts⟩ (c_X5_takes l D hb60 (a := s3.2.1) (w := s3.1) hs3 58) (cwV 1 hts gX5_readsPoint_X5_takes rfl rfl rfl (by decide +kernel) ⟨by decide, by decide⟩) hK hN hZ hP hD hS [0, 1, 2, 3, 4, 5, 6, 7] [0] rfl (by decide) rfl (q0 := 0) rfl rfl rfl hl.1 rfl (Nat.le_of_ble_eq_true rfl) ⟨by decide, by decide⟩ dX5_readsPoint_49 (fun v9 w9 H locs hp9 hP hD hS => ?_)
  obtain ⟨rfl, rfl⟩ := hp9
  have hP : va_P D vwCl (MdW om xS xV xB xT xA xP xR cI thr mS mSv kSm mBf (nI b) mTl mAl mPl kBs kLf (nI (if tkB mBf b s3.1 58 s3.2.1 = true then s3.2.1 + 1 else s3.2.1)) (bI s3.1) s3.2.2 (nI rm) hsh) H := hP
  have hD : va_D (wr_in (MdW om xS xV xB xT xA xP xR cI thr mS mSv kSm mBf (nI b) mTl mAl mPl kBs kLf (nI a) (bI w) mRd (nI rm) hsh)) (MdW om xS xV xB xT xA xP xR cI thr mS mSv kSm mBf (nI b) mTl mAl mPl kBs kLf (nI (if tkB mBf b s3.1 58 s3.2.1 = true then s3.2.1 + 1 else s3.2.1)) (bI s3.1) s3.2.2 (nI rm) hsh) := hD
  refine W.eq (g2 := F0 m 52 ls [.int (bI (tkB mBf b s3.1 58 s3.2.1)), .ref om]) rfl ?_
  refine va_put (D := D) (ci := 5) (v := .int (bI (tkB mBf b s3.1 58 s3.2.1))) (ty := .boolean) (C := RX5) (T := TX5) (N := 16) hx hb hts hinX5 tyX5 tyX5_ok nmX5 hown hK hP hD hS 0 rfl rfl 12 (by decide) hw160 (fun _ h9 => h9) rfl (by decide +kernel) (bI_n _) (bI_fit _) (Nat.le_of_ble_eq_true rfl) dX5_readsPoint_52 (fun H locs hP hD hS => ?_)
  have hP : va_P D vwCl (MdW om xS xV xB xT xA xP xR cI thr mS mSv kSm mBf (nI b) mTl mAl mPl kBs kLf (nI (if tkB mBf b s3.1 58 s3.2.1 = true then s3.2.1 + 1 else s3.2.1)) (bI (tkB mBf b s3.1 58 s3.2.1)) s3.2.2 (nI rm) hsh) H := hP
  have hD : va_D (wr_in (MdW om xS xV xB xT xA xP xR cI thr mS mSv kSm mBf (nI b) mTl mAl mPl kBs kLf (nI a) (bI w) mRd (nI rm) hsh)) (MdW om xS xV xB xT xA xP xR cI thr mS mSv kSm mBf (nI b) mTl mAl mPl kBs kLf (nI (if tkB mBf b s3.1 58 s3.2.1 = true then s3.2.1 + 1 else s3.2.1)) (bI (tkB mBf b s3.1 58 s3.2.1)) s3.2.2 (nI rm) hsh) := hD
  obtain ⟨s4, es4⟩ : ∃ z : PS, z = psT mBf b 58 s3 := ⟨_, rfl⟩
  have hP : va_P D vwCl (MdW om xS xV xB xT xA xP xR cI thr mS mSv kSm mBf (nI b) mTl mAl mPl kBs kLf (nI s4.2.1) (bI s4.1) s4.2.2 (nI rm) hsh) H := by rw [es4]; exact hP
  have hD : va_D (wr_in (MdW om xS xV xB xT xA xP xR cI thr mS mSv kSm mBf (nI b) mTl mAl mPl kBs kLf (nI a) (bI w) mRd (nI rm) hsh)) (MdW om xS xV xB xT xA xP xR cI thr mS mSv kSm mBf (nI b) mTl mAl mPl kBs kLf (nI s4.2.1) (bI s4.1) s4.2.2 (nI rm) hsh) := by rw [es4]; exact hD
  have hs4 : s4.2.1 ≤ b := by rw [es4]; exact psT_le (by decide) hs3
  refine lv_aload_n hx hb dX5_readsPoint_55 rfl (lv_at hl 1 rfl) ?_
  refine va_get (D := D) (ci := 5) (v := .ref xR) (C := RX5) (T := TX5) (N := 16) hx hb hts hinX5 hown hK hP 0 rfl rfl 13 (by decide) hw28 (fun _ h9 => h9) rfl dX5_readsPoint_56 ?_
  refine lv_iload_n hx hb dX5_readsPoint_59 rfl (lv_at hl 0 rfl) ?_
  refine lv_iconst (v := 2) hx hb dX5_readsPoint_60 (by decide) ?_
  refine lv_iadd hx hb dX5_readsPoint_61 ?_
  refine lv_asi (y := nI ((5 * rm) + 2)) (nI_add (5 * rm) 2) ?_
  refine lv_aload_n hx hb dX5_readsPoint_62 rfl (lv_at hl 1 rfl) ?_
  refine lv_iconst (v := 1) hx hb dX5_readsPoint_63 (by decide) ?_
  refine lv_bipush (v := 20) hx hb dX5_readsPoint_64 (by decide) ?_
  refine wr_callV (As := [.int 1, .int 20]) (rest := [.int (nI ((5 * rm) + 2)), .ref xR]) ⟨hx, hb, hml, hown, hts⟩ (c_X5_number l D hb60 (a := s4.2.1) (w := s4.1) hs4 (Or.inr rfl) 20) (cwV 2 hts gX5_readsPoint_X5_number rfl rfl rfl (by decide +kernel) ⟨by decide, by decide⟩) hK hN hZ hP hD hS [0, 1, 2, 3, 4, 5, 6, 7] [0] rfl (by decide) rfl (q0 := 0) rfl rfl rfl hl.1 rfl (Nat.le_of_ble_eq_true rfl) ⟨by decide, by decide⟩ dX5_readsPoint_66 (fun v9 w9 H locs hp9 hP hD hS => ?_)
  obtain ⟨rfl, rfl⟩ := hp9
  have hP : va_P D vwCl (MdW om xS xV xB xT xA xP xR cI thr mS mSv kSm mBf (nI b) mTl mAl mPl kBs kLf (nI ((nmR mBf b s4.1 1 20 s4.2.1).2)) (bI (nmW mBf b s4.1 1 s4.2.1)) s4.2.2 (nI rm) hsh) H := hP
  have hD : va_D (wr_in (MdW om xS xV xB xT xA xP xR cI thr mS mSv kSm mBf (nI b) mTl mAl mPl kBs kLf (nI a) (bI w) mRd (nI rm) hsh)) (MdW om xS xV xB xT xA xP xR cI thr mS mSv kSm mBf (nI b) mTl mAl mPl kBs kLf (nI ((nmR mBf b s4.1 1 20 s4.2.1).2)) (bI (nmW mBf b s4.1 1 s4.2.1)) s4.2.2 (nI rm) hsh) := hD
  refine W.eq (g2 := F0 m 69 ls [.int ((nmR mBf b s4.1 1 20 s4.2.1).1), .int (nI ((5 * rm) + 2)), .ref xR]) rfl ?_
  refine wr_ast (q0 := 7) (t0 := 0) (j := (5 * rm) + 2) hx hb hK hP hD hS rfl rfl (rfl) (by omega) (by decide) dX5_readsPoint_69 (fun H locs hP hD hS => ?_)
  obtain ⟨mRd_69, emRd_69⟩ : ∃ zz9 : Nat → Int32, zz9 = upd s4.2.2 ((5 * rm) + 2) ((nmR mBf b s4.1 1 20 s4.2.1).1) := ⟨_, rfl⟩
  rw [← emRd_69] at hP hD
  have hP : va_P D vwCl (MdW om xS xV xB xT xA xP xR cI thr mS mSv kSm mBf (nI b) mTl mAl mPl kBs kLf (nI ((nmR mBf b s4.1 1 20 s4.2.1).2)) (bI (nmW mBf b s4.1 1 s4.2.1)) mRd_69 (nI rm) hsh) H := hP
  have hD : va_D (wr_in (MdW om xS xV xB xT xA xP xR cI thr mS mSv kSm mBf (nI b) mTl mAl mPl kBs kLf (nI a) (bI w) mRd (nI rm) hsh)) (MdW om xS xV xB xT xA xP xR cI thr mS mSv kSm mBf (nI b) mTl mAl mPl kBs kLf (nI ((nmR mBf b s4.1 1 20 s4.2.1).2)) (bI (nmW mBf b s4.1 1 s4.2.1)) mRd_69 (nI rm) hsh) := hD
  obtain ⟨s5, es5⟩ : ∃ z : PS, z = psN mBf b (5 * rm + 2) 1 20 s4 := ⟨_, rfl⟩
  rw [emRd_69] at hP hD
  have hP : va_P D vwCl (MdW om xS xV xB xT xA xP xR cI thr mS mSv kSm mBf (nI b) mTl mAl mPl kBs kLf (nI s5.2.1) (bI s5.1) s5.2.2 (nI rm) hsh) H := by rw [es5]; exact hP
  have hD : va_D (wr_in (MdW om xS xV xB xT xA xP xR cI thr mS mSv kSm mBf (nI b) mTl mAl mPl kBs kLf (nI a) (bI w) mRd (nI rm) hsh)) (MdW om xS xV xB xT xA xP xR cI thr mS mSv kSm mBf (nI b) mTl mAl mPl kBs kLf (nI s5.2.1) (bI s5.1) s5.2.2 (nI rm) hsh) := by rw [es5]; exact hD
  have hs5 : s5.2.1 ≤ b := by rw [es5]; exact psN_le (Or.inr rfl) hs4
  refine lv_aload_n hx hb dX5_readsPoint_70 rfl (lv_at hl 1 rfl) ?_
  refine lv_aload_n hx hb dX5_readsPoint_71 rfl (lv_at hl 1 rfl) ?_
  refine lv_bipush (v := 120) hx hb dX5_readsPoint_72 (by decide) ?_
  refine wr_callV (As := [.int 120]) (rest := [.ref om]) ⟨hx, hb, hml, hown, hts⟩ (c_X5_takes l D hb60 (a := s5.2.1) (w := s5.1) hs5 120) (cwV 1 hts gX5_readsPoint_X5_takes rfl rfl rfl (by decide +kernel) ⟨by decide, by decide⟩) hK hN hZ hP hD hS [0, 1, 2, 3, 4, 5, 6, 7] [0] rfl (by decide) rfl (q0 := 0) rfl rfl rfl hl.1 rfl (Nat.le_of_ble_eq_true rfl) ⟨by decide, by decide⟩ dX5_readsPoint_74 (fun v9 w9 H locs hp9 hP hD hS => ?_)
  obtain ⟨rfl, rfl⟩ := hp9
  have hP : va_P D vwCl (MdW om xS xV xB xT xA xP xR cI thr mS mSv kSm mBf (nI b) mTl mAl mPl kBs kLf (nI (if tkB mBf b s5.1 120 s5.2.1 = true then s5.2.1 + 1 else s5.2.1)) (bI s5.1) s5.2.2 (nI rm) hsh) H := hP
  have hD : va_D (wr_in (MdW om xS xV xB xT xA xP xR cI thr mS mSv kSm mBf (nI b) mTl mAl mPl kBs kLf (nI a) (bI w) mRd (nI rm) hsh)) (MdW om xS xV xB xT xA xP xR cI thr mS mSv kSm mBf (nI b) mTl mAl mPl kBs kLf (nI (if tkB mBf b s5.1 120 s5.2.1 = true then s5.2.1 + 1 else s5.2.1)) (bI s5.1) s5.2.2 (nI rm) hsh) := hD
  refine W.eq (g2 := F0 m 77 ls [.int (bI (tkB mBf b s5.1 120 s5.2.1)), .ref om]) rfl ?_
  refine va_put (D := D) (ci := 5) (v := .int (bI (tkB mBf b s5.1 120 s5.2.1))) (ty := .boolean) (C := RX5) (T := TX5) (N := 16) hx hb hts hinX5 tyX5 tyX5_ok nmX5 hown hK hP hD hS 0 rfl rfl 12 (by decide) hw160 (fun _ h9 => h9) rfl (by decide +kernel) (bI_n _) (bI_fit _) (Nat.le_of_ble_eq_true rfl) dX5_readsPoint_77 (fun H locs hP hD hS => ?_)
  have hP : va_P D vwCl (MdW om xS xV xB xT xA xP xR cI thr mS mSv kSm mBf (nI b) mTl mAl mPl kBs kLf (nI (if tkB mBf b s5.1 120 s5.2.1 = true then s5.2.1 + 1 else s5.2.1)) (bI (tkB mBf b s5.1 120 s5.2.1)) s5.2.2 (nI rm) hsh) H := hP
  have hD : va_D (wr_in (MdW om xS xV xB xT xA xP xR cI thr mS mSv kSm mBf (nI b) mTl mAl mPl kBs kLf (nI a) (bI w) mRd (nI rm) hsh)) (MdW om xS xV xB xT xA xP xR cI thr mS mSv kSm mBf (nI b) mTl mAl mPl kBs kLf (nI (if tkB mBf b s5.1 120 s5.2.1 = true then s5.2.1 + 1 else s5.2.1)) (bI (tkB mBf b s5.1 120 s5.2.1)) s5.2.2 (nI rm) hsh) := hD
  obtain ⟨s6, es6⟩ : ∃ z : PS, z = psT mBf b 120 s5 := ⟨_, rfl⟩
  have hP : va_P D vwCl (MdW om xS xV xB xT xA xP xR cI thr mS mSv kSm mBf (nI b) mTl mAl mPl kBs kLf (nI s6.2.1) (bI s6.1) s6.2.2 (nI rm) hsh) H := by rw [es6]; exact hP
  have hD : va_D (wr_in (MdW om xS xV xB xT xA xP xR cI thr mS mSv kSm mBf (nI b) mTl mAl mPl kBs kLf (nI a) (bI w) mRd (nI rm) hsh)) (MdW om xS xV xB xT xA xP xR cI thr mS mSv kSm mBf (nI b) mTl mAl mPl kBs kLf (nI s6.2.1) (bI s6.1) s6.2.2 (nI rm) hsh) := by rw [es6]; exact hD
  have hs6 : s6.2.1 ≤ b := by rw [es6]; exact psT_le (by decide) hs5
  refine lv_aload_n hx hb dX5_readsPoint_80 rfl (lv_at hl 1 rfl) ?_
  refine va_get (D := D) (ci := 5) (v := .ref xR) (C := RX5) (T := TX5) (N := 16) hx hb hts hinX5 hown hK hP 0 rfl rfl 13 (by decide) hw28 (fun _ h9 => h9) rfl dX5_readsPoint_81 ?_
  refine lv_iload_n hx hb dX5_readsPoint_84 rfl (lv_at hl 0 rfl) ?_
  refine lv_iconst (v := 3) hx hb dX5_readsPoint_85 (by decide) ?_
  refine lv_iadd hx hb dX5_readsPoint_86 ?_
  refine lv_asi (y := nI ((5 * rm) + 3)) (nI_add (5 * rm) 3) ?_
  refine lv_aload_n hx hb dX5_readsPoint_87 rfl (lv_at hl 1 rfl) ?_
  refine lv_iconst (v := 1) hx hb dX5_readsPoint_88 (by decide) ?_
  refine lv_bipush (v := 9) hx hb dX5_readsPoint_89 (by decide) ?_
  refine wr_callV (As := [.int 1, .int 9]) (rest := [.int (nI ((5 * rm) + 3)), .ref xR]) ⟨hx, hb, hml, hown, hts⟩ (c_X5_number l D hb60 (a := s6.2.1) (w := s6.1) hs6 (Or.inr rfl) 9) (cwV 2 hts gX5_readsPoint_X5_number rfl rfl rfl (by decide +kernel) ⟨by decide, by decide⟩) hK hN hZ hP hD hS [0, 1, 2, 3, 4, 5, 6, 7] [0] rfl (by decide) rfl (q0 := 0) rfl rfl rfl hl.1 rfl (Nat.le_of_ble_eq_true rfl) ⟨by decide, by decide⟩ dX5_readsPoint_91 (fun v9 w9 H locs hp9 hP hD hS => ?_)
  obtain ⟨rfl, rfl⟩ := hp9
  have hP : va_P D vwCl (MdW om xS xV xB xT xA xP xR cI thr mS mSv kSm mBf (nI b) mTl mAl mPl kBs kLf (nI ((nmR mBf b s6.1 1 9 s6.2.1).2)) (bI (nmW mBf b s6.1 1 s6.2.1)) s6.2.2 (nI rm) hsh) H := hP
  have hD : va_D (wr_in (MdW om xS xV xB xT xA xP xR cI thr mS mSv kSm mBf (nI b) mTl mAl mPl kBs kLf (nI a) (bI w) mRd (nI rm) hsh)) (MdW om xS xV xB xT xA xP xR cI thr mS mSv kSm mBf (nI b) mTl mAl mPl kBs kLf (nI ((nmR mBf b s6.1 1 9 s6.2.1).2)) (bI (nmW mBf b s6.1 1 s6.2.1)) s6.2.2 (nI rm) hsh) := hD
  refine W.eq (g2 := F0 m 94 ls [.int ((nmR mBf b s6.1 1 9 s6.2.1).1), .int (nI ((5 * rm) + 3)), .ref xR]) rfl ?_
  refine wr_ast (q0 := 7) (t0 := 0) (j := (5 * rm) + 3) hx hb hK hP hD hS rfl rfl (rfl) (by omega) (by decide) dX5_readsPoint_94 (fun H locs hP hD hS => ?_)
  obtain ⟨mRd_94, emRd_94⟩ : ∃ zz9 : Nat → Int32, zz9 = upd s6.2.2 ((5 * rm) + 3) ((nmR mBf b s6.1 1 9 s6.2.1).1) := ⟨_, rfl⟩
  rw [← emRd_94] at hP hD
  have hP : va_P D vwCl (MdW om xS xV xB xT xA xP xR cI thr mS mSv kSm mBf (nI b) mTl mAl mPl kBs kLf (nI ((nmR mBf b s6.1 1 9 s6.2.1).2)) (bI (nmW mBf b s6.1 1 s6.2.1)) mRd_94 (nI rm) hsh) H := hP
  have hD : va_D (wr_in (MdW om xS xV xB xT xA xP xR cI thr mS mSv kSm mBf (nI b) mTl mAl mPl kBs kLf (nI a) (bI w) mRd (nI rm) hsh)) (MdW om xS xV xB xT xA xP xR cI thr mS mSv kSm mBf (nI b) mTl mAl mPl kBs kLf (nI ((nmR mBf b s6.1 1 9 s6.2.1).2)) (bI (nmW mBf b s6.1 1 s6.2.1)) mRd_94 (nI rm) hsh) := hD
  obtain ⟨s7, es7⟩ : ∃ z : PS, z = psN mBf b (5 * rm + 3) 1 9 s6 := ⟨_, rfl⟩
  rw [emRd_94] at hP hD
  have hP : va_P D vwCl (MdW om xS xV xB xT xA xP xR cI thr mS mSv kSm mBf (nI b) mTl mAl mPl kBs kLf (nI s7.2.1) (bI s7.1) s7.2.2 (nI rm) hsh) H := by rw [es7]; exact hP
  have hD : va_D (wr_in (MdW om xS xV xB xT xA xP xR cI thr mS mSv kSm mBf (nI b) mTl mAl mPl kBs kLf (nI a) (bI w) mRd (nI rm) hsh)) (MdW om xS xV xB xT xA xP xR cI thr mS mSv kSm mBf (nI b) mTl mAl mPl kBs kLf (nI s7.2.1) (bI s7.1) s7.2.2 (nI rm) hsh) := by rw [es7]; exact hD
  have hs7 : s7.2.1 ≤ b := by rw [es7]; exact psN_le (Or.inr rfl) hs6
  refine lv_aload_n hx hb dX5_readsPoint_95 rfl (lv_at hl 1 rfl) ?_
  refine va_get (D := D) (ci := 5) (v := .ref xR) (C := RX5) (T := TX5) (N := 16) hx hb hts hinX5 hown hK hP 0 rfl rfl 13 (by decide) hw28 (fun _ h9 => h9) rfl dX5_readsPoint_96 ?_
  refine lv_iload_n hx hb dX5_readsPoint_99 rfl (lv_at hl 0 rfl) ?_
  refine lv_iconst (v := 4) hx hb dX5_readsPoint_100 (by decide) ?_
  refine lv_iadd hx hb dX5_readsPoint_101 ?_
  refine lv_asi (y := nI ((5 * rm) + 4)) (nI_add (5 * rm) 4) ?_
  refine lv_aload_n hx hb dX5_readsPoint_102 rfl (lv_at hl 1 rfl) ?_
  refine lv_bipush (v := 42) hx hb dX5_readsPoint_103 (by decide) ?_
  refine wr_callV (As := [.int 42]) (rest := [.int (nI ((5 * rm) + 4)), .ref xR]) ⟨hx, hb, hml, hown, hts⟩ (c_X5_takes l D hb60 (a := s7.2.1) (w := s7.1) hs7 42) (cwV 1 hts gX5_readsPoint_X5_takes rfl rfl rfl (by decide +kernel) ⟨by decide, by decide⟩) hK hN hZ hP hD hS [0, 1, 2, 3, 4, 5, 6, 7] [0] rfl (by decide) rfl (q0 := 0) rfl rfl rfl hl.1 rfl (Nat.le_of_ble_eq_true rfl) ⟨by decide, by decide⟩ dX5_readsPoint_105 (fun v9 w9 H locs hp9 hP hD hS => ?_)
  obtain ⟨rfl, rfl⟩ := hp9
  have hP : va_P D vwCl (MdW om xS xV xB xT xA xP xR cI thr mS mSv kSm mBf (nI b) mTl mAl mPl kBs kLf (nI (if tkB mBf b s7.1 42 s7.2.1 = true then s7.2.1 + 1 else s7.2.1)) (bI s7.1) s7.2.2 (nI rm) hsh) H := hP
  have hD : va_D (wr_in (MdW om xS xV xB xT xA xP xR cI thr mS mSv kSm mBf (nI b) mTl mAl mPl kBs kLf (nI a) (bI w) mRd (nI rm) hsh)) (MdW om xS xV xB xT xA xP xR cI thr mS mSv kSm mBf (nI b) mTl mAl mPl kBs kLf (nI (if tkB mBf b s7.1 42 s7.2.1 = true then s7.2.1 + 1 else s7.2.1)) (bI s7.1) s7.2.2 (nI rm) hsh) := hD
  refine W.eq (g2 := F0 m 108 ls [.int (bI (tkB mBf b s7.1 42 s7.2.1)), .int (nI ((5 * rm) + 4)), .ref xR]) rfl ?_
  refine rd_ifeq_b (tgt := 121) hx hb dX5_readsPoint_108 (by decide) (fun c_108 => ?_) (fun c_108 => ?_)
  · rw [if_neg (by rw [c_108]; decide)] at hP hD
    have hP : va_P D vwCl (MdW om xS xV xB xT xA xP xR cI thr mS mSv kSm mBf (nI b) mTl mAl mPl kBs kLf (nI s7.2.1) (bI s7.1) s7.2.2 (nI rm) hsh) H := hP
    have hD : va_D (wr_in (MdW om xS xV xB xT xA xP xR cI thr mS mSv kSm mBf (nI b) mTl mAl mPl kBs kLf (nI a) (bI w) mRd (nI rm) hsh)) (MdW om xS xV xB xT xA xP xR cI thr mS mSv kSm mBf (nI b) mTl mAl mPl kBs kLf (nI s7.2.1) (bI s7.1) s7.2.2 (nI rm) hsh) := hD
    refine lv_iconst (v := 1) hx hb dX5_readsPoint_121 (by decide) ?_
    refine wr_ast (q0 := 7) (t0 := 0) (j := (5 * rm) + 4) hx hb hK hP hD hS rfl rfl (rfl) (by omega) (by decide) dX5_readsPoint_122 (fun H locs hP hD hS => ?_)
    obtain ⟨mRd_122, emRd_122⟩ : ∃ zz9 : Nat → Int32, zz9 = upd s7.2.2 ((5 * rm) + 4) 1 := ⟨_, rfl⟩
    rw [← emRd_122] at hP hD
    have hP : va_P D vwCl (MdW om xS xV xB xT xA xP xR cI thr mS mSv kSm mBf (nI b) mTl mAl mPl kBs kLf (nI s7.2.1) (bI s7.1) mRd_122 (nI rm) hsh) H := hP
    have hD : va_D (wr_in (MdW om xS xV xB xT xA xP xR cI thr mS mSv kSm mBf (nI b) mTl mAl mPl kBs kLf (nI a) (bI w) mRd (nI rm) hsh)) (MdW om xS xV xB xT xA xP xR cI thr mS mSv kSm mBf (nI b) mTl mAl mPl kBs kLf (nI s7.2.1) (bI s7.1) mRd_122 (nI rm) hsh) := hD
    obtain ⟨s8, es8⟩ : ∃ z : PS, z = psL mBf b (5 * rm + 4) s7 := ⟨_, rfl⟩
    rw [emRd_122] at hP hD
    have hP : va_P D vwCl (MdW om xS xV xB xT xA xP xR cI thr mS mSv kSm mBf (nI b) mTl mAl mPl kBs kLf (nI s8.2.1) (bI s8.1) s8.2.2 (nI rm) hsh) H := by rw [es8, psL, if_neg (by rw [c_108]; decide)]; exact hP
    have hD : va_D (wr_in (MdW om xS xV xB xT xA xP xR cI thr mS mSv kSm mBf (nI b) mTl mAl mPl kBs kLf (nI a) (bI w) mRd (nI rm) hsh)) (MdW om xS xV xB xT xA xP xR cI thr mS mSv kSm mBf (nI b) mTl mAl mPl kBs kLf (nI s8.2.1) (bI s8.1) s8.2.2 (nI rm) hsh) := by rw [es8, psL, if_neg (by rw [c_108]; decide)]; exact hD
    have hs8 : s8.2.1 ≤ b := by rw [es8]; exact psL_le hs7
    refine lv_aload_n hx hb dX5_readsPoint_123 rfl (lv_at hl 1 rfl) ?_
    refine lv_dup hx hb dX5_readsPoint_124 rfl ?_
    refine va_get (D := D) (ci := 5) (v := .int (nI rm)) (C := RX5) (T := TX5) (N := 16) hx hb hts hinX5 hown hK hP 0 rfl rfl 14 (by decide) hw167 (fun _ h9 => h9) rfl dX5_readsPoint_125 ?_
    refine lv_aload_n hx hb dX5_readsPoint_128 rfl (lv_at hl 1 rfl) ?_
    refine va_get (D := D) (ci := 5) (v := .int (bI s8.1)) (C := RX5) (T := TX5) (N := 16) hx hb hts hinX5 hown hK hP 0 rfl rfl 12 (by decide) hw160 (fun _ h9 => h9) rfl dX5_readsPoint_129 ?_
    suffices j140 : ∀ ls : Array Slot, lv_has ls 2 [(1, .int (nI (5 * rm))), (0, .ref om)] → wr_W p l e wsX5_readsPoint ({ frames := 2, cells := 0, slots := 0, locals := 45 } : Room) s m [.ref om] below meth c D (MdW om xS xV xB xT xA xP xR cI thr mS mSv kSm mBf (nI b) mTl mAl mPl kBs kLf (nI a) (bI w) mRd (nI rm) hsh) (fun v w9 => v = none ∧ w9 = MdW om xS xV xB xT xA xP xR cI thr mS mSv kSm mBf (nI b) mTl mAl mPl kBs kLf (nI ((psP mBf b rm (w, a, mRd)).2.1)) (bI ((psP mBf b rm (w, a, mRd)).1)) ((psP mBf b rm (w, a, mRd)).2.2) (nI (if (psP mBf b rm (w, a, mRd)).1 = true then rm + 1 else rm)) hsh) H locs (F0 m 140 ls [.int (if s8.1 = true then 1 else 0), .int (nI rm), .ref om]) by
      refine rd_ifeq_b (tgt := 139) hx hb dX5_readsPoint_132 (by decide) (fun c_132 => ?_) (fun c_132 => ?_)
      · refine lv_iconst (v := 0) hx hb dX5_readsPoint_139 (by decide) ?_
        refine lv_asi (y := if s8.1 = true then 1 else 0) (by simp [c_132]) ?_
        exact j140 ls (lv_sub hl [0, 1] rfl)
      · refine lv_iconst (v := 1) hx hb dX5_readsPoint_135 (by decide) ?_
        refine lv_goto (tgt := 140) hx hb dX5_readsPoint_136 (by decide) ?_
        refine lv_asi (y := if s8.1 = true then 1 else 0) (by simp [c_132]) ?_
        exact j140 ls (lv_sub hl [0, 1] rfl)
    intro ls hl
    refine lv_iadd hx hb dX5_readsPoint_140 ?_
    refine lv_asi (y := nI (if s8.1 = true then rm + 1 else rm)) (by cases s8.1 <;> simp [nI_add rm 0, nI_add rm 1, ← nI_succ, nI_succ]) ?_
    refine va_put (D := D) (ci := 5) (v := .int (nI (if s8.1 = true then rm + 1 else rm))) (ty := .int) (C := RX5) (T := TX5) (N := 16) hx hb hts hinX5 tyX5 tyX5_ok nmX5 hown hK hP hD hS 0 rfl rfl 14 (by decide) hw167 (fun _ h9 => h9) rfl (by decide +kernel) rfl rfl (Nat.le_of_ble_eq_true rfl) dX5_readsPoint_141 (fun H locs hP hD hS => ?_)
    have hP : va_P D vwCl (MdW om xS xV xB xT xA xP xR cI thr mS mSv kSm mBf (nI b) mTl mAl mPl kBs kLf (nI s8.2.1) (bI s8.1) s8.2.2 (nI (if s8.1 = true then rm + 1 else rm)) hsh) H := hP
    have hD : va_D (wr_in (MdW om xS xV xB xT xA xP xR cI thr mS mSv kSm mBf (nI b) mTl mAl mPl kBs kLf (nI a) (bI w) mRd (nI rm) hsh)) (MdW om xS xV xB xT xA xP xR cI thr mS mSv kSm mBf (nI b) mTl mAl mPl kBs kLf (nI s8.2.1) (bI s8.1) s8.2.2 (nI (if s8.1 = true then rm + 1 else rm)) hsh) := hD
    exact wr_vret hx hb hr hlocks hP hS rfl dX5_readsPoint_144 (by have hz : s8 = psP mBf b rm (w, a, mRd) := (by rw [es8, es7, es6, es5, es4, es3, es2, es1]; rfl); rw [← hz]; exact ⟨rfl, rfl⟩)
  · rw [if_pos c_108] at hP hD
    have hP : va_P D vwCl (MdW om xS xV xB xT xA xP xR cI thr mS mSv kSm mBf (nI b) mTl mAl mPl kBs kLf (nI (s7.2.1 + 1)) (bI s7.1) s7.2.2 (nI rm) hsh) H := hP
    have hD : va_D (wr_in (MdW om xS xV xB xT xA xP xR cI thr mS mSv kSm mBf (nI b) mTl mAl mPl kBs kLf (nI a) (bI w) mRd (nI rm) hsh)) (MdW om xS xV xB xT xA xP xR cI thr mS mSv kSm mBf (nI b) mTl mAl mPl kBs kLf (nI (s7.2.1 + 1)) (bI s7.1) s7.2.2 (nI rm) hsh) := hD
    refine lv_aload_n hx hb dX5_readsPoint_111 rfl (lv_at hl 1 rfl) ?_
    refine lv_iconst (v := 1) hx hb dX5_readsPoint_112 (by decide) ?_
    refine lv_bipush (v := 99) hx hb dX5_readsPoint_113 (by decide) ?_
    refine wr_callV (As := [.int 1, .int 99]) (rest := [.int (nI ((5 * rm) + 4)), .ref xR]) ⟨hx, hb, hml, hown, hts⟩ (c_X5_number l D hb60 (a := s7.2.1 + 1) (w := s7.1) (tkB_lt (by decide) c_108) (Or.inr rfl) 99) (cwV 2 hts gX5_readsPoint_X5_number rfl rfl rfl (by decide +kernel) ⟨by decide, by decide⟩) hK hN hZ hP hD hS [0, 1, 2, 3, 4, 5, 6, 7] [0] rfl (by decide) rfl (q0 := 0) rfl rfl rfl hl.1 rfl (Nat.le_of_ble_eq_true rfl) ⟨by decide, by decide⟩ dX5_readsPoint_115 (fun v9 w9 H locs hp9 hP hD hS => ?_)
    obtain ⟨rfl, rfl⟩ := hp9
    have hP : va_P D vwCl (MdW om xS xV xB xT xA xP xR cI thr mS mSv kSm mBf (nI b) mTl mAl mPl kBs kLf (nI ((nmR mBf b s7.1 1 99 (s7.2.1 + 1)).2)) (bI (nmW mBf b s7.1 1 (s7.2.1 + 1))) s7.2.2 (nI rm) hsh) H := hP
    have hD : va_D (wr_in (MdW om xS xV xB xT xA xP xR cI thr mS mSv kSm mBf (nI b) mTl mAl mPl kBs kLf (nI a) (bI w) mRd (nI rm) hsh)) (MdW om xS xV xB xT xA xP xR cI thr mS mSv kSm mBf (nI b) mTl mAl mPl kBs kLf (nI ((nmR mBf b s7.1 1 99 (s7.2.1 + 1)).2)) (bI (nmW mBf b s7.1 1 (s7.2.1 + 1))) s7.2.2 (nI rm) hsh) := hD
    refine W.eq (g2 := F0 m 118 ls [.int ((nmR mBf b s7.1 1 99 (s7.2.1 + 1)).1), .int (nI ((5 * rm) + 4)), .ref xR]) rfl ?_
    refine lv_goto (tgt := 122) hx hb dX5_readsPoint_118 (by decide) ?_
    refine wr_ast (q0 := 7) (t0 := 0) (j := (5 * rm) + 4) hx hb hK hP hD hS rfl rfl (rfl) (by omega) (by decide) dX5_readsPoint_122 (fun H locs hP hD hS => ?_)
    obtain ⟨mRd_122, emRd_122⟩ : ∃ zz9 : Nat → Int32, zz9 = upd s7.2.2 ((5 * rm) + 4) ((nmR mBf b s7.1 1 99 (s7.2.1 + 1)).1) := ⟨_, rfl⟩
    rw [← emRd_122] at hP hD
    have hP : va_P D vwCl (MdW om xS xV xB xT xA xP xR cI thr mS mSv kSm mBf (nI b) mTl mAl mPl kBs kLf (nI ((nmR mBf b s7.1 1 99 (s7.2.1 + 1)).2)) (bI (nmW mBf b s7.1 1 (s7.2.1 + 1))) mRd_122 (nI rm) hsh) H := hP
    have hD : va_D (wr_in (MdW om xS xV xB xT xA xP xR cI thr mS mSv kSm mBf (nI b) mTl mAl mPl kBs kLf (nI a) (bI w) mRd (nI rm) hsh)) (MdW om xS xV xB xT xA xP xR cI thr mS mSv kSm mBf (nI b) mTl mAl mPl kBs kLf (nI ((nmR mBf b s7.1 1 99 (s7.2.1 + 1)).2)) (bI (nmW mBf b s7.1 1 (s7.2.1 + 1))) mRd_122 (nI rm) hsh) := hD
    obtain ⟨s8, es8⟩ : ∃ z : PS, z = psL mBf b (5 * rm + 4) s7 := ⟨_, rfl⟩
    rw [emRd_122] at hP hD
    have hP : va_P D vwCl (MdW om xS xV xB xT xA xP xR cI thr mS mSv kSm mBf (nI b) mTl mAl mPl kBs kLf (nI s8.2.1) (bI s8.1) s8.2.2 (nI rm) hsh) H := by rw [es8, psL, if_pos c_108]; exact hP
    have hD : va_D (wr_in (MdW om xS xV xB xT xA xP xR cI thr mS mSv kSm mBf (nI b) mTl mAl mPl kBs kLf (nI a) (bI w) mRd (nI rm) hsh)) (MdW om xS xV xB xT xA xP xR cI thr mS mSv kSm mBf (nI b) mTl mAl mPl kBs kLf (nI s8.2.1) (bI s8.1) s8.2.2 (nI rm) hsh) := by rw [es8, psL, if_pos c_108]; exact hD
    have hs8 : s8.2.1 ≤ b := by rw [es8]; exact psL_le hs7
    refine lv_aload_n hx hb dX5_readsPoint_123 rfl (lv_at hl 1 rfl) ?_
    refine lv_dup hx hb dX5_readsPoint_124 rfl ?_
    refine va_get (D := D) (ci := 5) (v := .int (nI rm)) (C := RX5) (T := TX5) (N := 16) hx hb hts hinX5 hown hK hP 0 rfl rfl 14 (by decide) hw167 (fun _ h9 => h9) rfl dX5_readsPoint_125 ?_
    refine lv_aload_n hx hb dX5_readsPoint_128 rfl (lv_at hl 1 rfl) ?_
    refine va_get (D := D) (ci := 5) (v := .int (bI s8.1)) (C := RX5) (T := TX5) (N := 16) hx hb hts hinX5 hown hK hP 0 rfl rfl 12 (by decide) hw160 (fun _ h9 => h9) rfl dX5_readsPoint_129 ?_
    suffices j140 : ∀ ls : Array Slot, lv_has ls 2 [(1, .int (nI (5 * rm))), (0, .ref om)] → wr_W p l e wsX5_readsPoint ({ frames := 2, cells := 0, slots := 0, locals := 45 } : Room) s m [.ref om] below meth c D (MdW om xS xV xB xT xA xP xR cI thr mS mSv kSm mBf (nI b) mTl mAl mPl kBs kLf (nI a) (bI w) mRd (nI rm) hsh) (fun v w9 => v = none ∧ w9 = MdW om xS xV xB xT xA xP xR cI thr mS mSv kSm mBf (nI b) mTl mAl mPl kBs kLf (nI ((psP mBf b rm (w, a, mRd)).2.1)) (bI ((psP mBf b rm (w, a, mRd)).1)) ((psP mBf b rm (w, a, mRd)).2.2) (nI (if (psP mBf b rm (w, a, mRd)).1 = true then rm + 1 else rm)) hsh) H locs (F0 m 140 ls [.int (if s8.1 = true then 1 else 0), .int (nI rm), .ref om]) by
      refine rd_ifeq_b (tgt := 139) hx hb dX5_readsPoint_132 (by decide) (fun c_132 => ?_) (fun c_132 => ?_)
      · refine lv_iconst (v := 0) hx hb dX5_readsPoint_139 (by decide) ?_
        refine lv_asi (y := if s8.1 = true then 1 else 0) (by simp [c_132]) ?_
        exact j140 ls (lv_sub hl [0, 1] rfl)
      · refine lv_iconst (v := 1) hx hb dX5_readsPoint_135 (by decide) ?_
        refine lv_goto (tgt := 140) hx hb dX5_readsPoint_136 (by decide) ?_
        refine lv_asi (y := if s8.1 = true then 1 else 0) (by simp [c_132]) ?_
        exact j140 ls (lv_sub hl [0, 1] rfl)
    intro ls hl
    refine lv_iadd hx hb dX5_readsPoint_140 ?_
    refine lv_asi (y := nI (if s8.1 = true then rm + 1 else rm)) (by cases s8.1 <;> simp [nI_add rm 0, nI_add rm 1, ← nI_succ, nI_succ]) ?_
    refine va_put (D := D) (ci := 5) (v := .int (nI (if s8.1 = true then rm + 1 else rm))) (ty := .int) (C := RX5) (T := TX5) (N := 16) hx hb hts hinX5 tyX5 tyX5_ok nmX5 hown hK hP hD hS 0 rfl rfl 14 (by decide) hw167 (fun _ h9 => h9) rfl (by decide +kernel) rfl rfl (Nat.le_of_ble_eq_true rfl) dX5_readsPoint_141 (fun H locs hP hD hS => ?_)
    have hP : va_P D vwCl (MdW om xS xV xB xT xA xP xR cI thr mS mSv kSm mBf (nI b) mTl mAl mPl kBs kLf (nI s8.2.1) (bI s8.1) s8.2.2 (nI (if s8.1 = true then rm + 1 else rm)) hsh) H := hP
    have hD : va_D (wr_in (MdW om xS xV xB xT xA xP xR cI thr mS mSv kSm mBf (nI b) mTl mAl mPl kBs kLf (nI a) (bI w) mRd (nI rm) hsh)) (MdW om xS xV xB xT xA xP xR cI thr mS mSv kSm mBf (nI b) mTl mAl mPl kBs kLf (nI s8.2.1) (bI s8.1) s8.2.2 (nI (if s8.1 = true then rm + 1 else rm)) hsh) := hD
    exact wr_vret hx hb hr hlocks hP hS rfl dX5_readsPoint_144 (by have hz : s8 = psP mBf b rm (w, a, mRd) := (by rw [es8, es7, es6, es5, es4, es3, es2, es1]; rfl); rw [← hz]; exact ⟨rfl, rfl⟩)
set_option maxHeartbeats 4000000 in
set_option maxRecDepth 100000 in
theorem c_X5_readsAll (l : Launch) (D : va_G) {om xS xV xB xT xA xP xR : Nat} {cI : ClassId} {thr kSm kBs kLf kRm kAt kWl : Int32} {hsh : Int64} {mS mSv mBf mTl mAl mPl mRd : Nat → Int32} {b : Nat} (hb60 : b ≤ 60) (td : Nat → Int32) : wr_M l yX5_readsAll wsX5_readsAll ({ frames := 3, cells := 0, slots := 0, locals := 66 } : Room) D (MdW om xS xV xB xT xA xP xR cI thr mS mSv kSm mBf (nI b) mTl mAl mPl kBs kLf kAt kWl mRd kRm hsh) [(cI, .int)] [.ref om] (fun v w9 => v = none ∧ ∃ (w8 : Bool) (a8 rm8 : Nat) (rd8 : Nat → Int32), psEnd (tyR mBf b 0 (tyIn td)) w8 a8 rm8 rd8 ∧ w9 = MdW om xS xV xB xT xA xP xR cI thr mS mSv kSm mBf (nI b) mTl mAl mPl kBs kLf (nI a8) (bI w8) rd8 (nI rm8) hsh) := by
  refine wr_of (cc := cX5_readsAll) (maxL := 1) (ret := none) (by decide) rfl (Nat.le_of_ble_eq_true rfl) ?_
  intro p e s m below meth c hx hb hr hml hts hown hlocks hP hK hN hZ hD hS ls hl
  have hown : s.vm.findClass RX5 = some m.cls := hown
  have hl : lv_has ls 1 [(0, .ref om)] := hl
  have hinX5 : ∀ w ∈ u_ws RX5 TX5 16, w ∈ wsX5_readsAll := by decide +kernel
  have hw157 := hts (.fieldLink RX5 157 "CornerLabelsModel" "at" "I") (by decide +kernel)
  have hw160 := hts (.fieldLink RX5 160 "CornerLabelsModel" "isWell" "Z") (by decide +kernel)
  have hw167 := hts (.fieldLink RX5 167 "CornerLabelsModel" "readMany" "I") (by decide +kernel)
  have hw154 := hts (.fieldLink RX5 154 "CornerLabelsModel" "length" "I") (by decide +kernel)
  suffices body : ∀ (H : Heap) (locs : List Loc), va_P D vwCl (MdW om xS xV xB xT xA xP xR cI thr mS mSv kSm mBf (nI b) mTl mAl mPl kBs kLf kAt kWl mRd kRm hsh) H → va_D (wr_in (MdW om xS xV xB xT xA xP xR cI thr mS mSv kSm mBf (nI b) mTl mAl mPl kBs kLf kAt kWl mRd kRm hsh)) (MdW om xS xV xB xT xA xP xR cI thr mS mSv kSm mBf (nI b) mTl mAl mPl kBs kLf kAt kWl mRd kRm hsh) → va_S (wr_in (MdW om xS xV xB xT xA xP xR cI thr mS mSv kSm mBf (nI b) mTl mAl mPl kBs kLf kAt kWl mRd kRm hsh)) s.heap H locs → wr_W p l e wsX5_readsAll ({ frames := 3, cells := 0, slots := 0, locals := 66 } : Room) s m [.ref om] below meth c D (MdW om xS xV xB xT xA xP xR cI thr mS mSv kSm mBf (nI b) mTl mAl mPl kBs kLf kAt kWl mRd kRm hsh) (fun v w9 => v = none ∧ ∃ (w8 : Bool) (a8 rm8 : Nat) (rd8 : Nat → Int32), psEnd (tyR mBf b 0 (tyIn td)) w8 a8 rm8 rd8 ∧ w9 = MdW om xS xV xB xT xA xP xR cI thr mS mSv kSm mBf (nI b) mTl mAl mPl kBs kLf (nI a8) (bI w8) rd8 (nI rm8) hsh) H locs (F0 m 0 ls []) from body _ _ hP hD hS
  clear hP hD hS
  intro H locs hP hD hS
  refine lv_aload_n hx hb dX5_readsAll_0 rfl (lv_at hl 0 rfl) ?_
  refine lv_iconst (v := 0) hx hb dX5_readsAll_1 (by decide) ?_
  refine va_put (D := D) (ci := 5) (v := .int 0) (ty := .int) (C := RX5) (T := TX5) (N := 16) hx hb hts hinX5 tyX5 tyX5_ok nmX5 hown hK hP hD hS 0 rfl rfl 11 (by decide) hw157 (fun _ h9 => h9) rfl (by decide +kernel) rfl rfl (Nat.le_of_ble_eq_true rfl) dX5_readsAll_2 (fun H locs hP hD hS => ?_)
  have hP : va_P D vwCl (MdW om xS xV xB xT xA xP xR cI thr mS mSv kSm mBf (nI b) mTl mAl mPl kBs kLf 0 kWl mRd kRm hsh) H := hP
  have hD : va_D (wr_in (MdW om xS xV xB xT xA xP xR cI thr mS mSv kSm mBf (nI b) mTl mAl mPl kBs kLf kAt kWl mRd kRm hsh)) (MdW om xS xV xB xT xA xP xR cI thr mS mSv kSm mBf (nI b) mTl mAl mPl kBs kLf 0 kWl mRd kRm hsh) := hD
  refine lv_aload_n hx hb dX5_readsAll_5 rfl (lv_at hl 0 rfl) ?_
  refine lv_iconst (v := 1) hx hb dX5_readsAll_6 (by decide) ?_
  refine va_put (D := D) (ci := 5) (v := .int 1) (ty := .boolean) (C := RX5) (T := TX5) (N := 16) hx hb hts hinX5 tyX5 tyX5_ok nmX5 hown hK hP hD hS 0 rfl rfl 12 (by decide) hw160 (fun _ h9 => h9) rfl (by decide +kernel) rfl rfl (Nat.le_of_ble_eq_true rfl) dX5_readsAll_7 (fun H locs hP hD hS => ?_)
  have hP : va_P D vwCl (MdW om xS xV xB xT xA xP xR cI thr mS mSv kSm mBf (nI b) mTl mAl mPl kBs kLf 0 (bI true) mRd kRm hsh) H := hP
  have hD : va_D (wr_in (MdW om xS xV xB xT xA xP xR cI thr mS mSv kSm mBf (nI b) mTl mAl mPl kBs kLf kAt kWl mRd kRm hsh)) (MdW om xS xV xB xT xA xP xR cI thr mS mSv kSm mBf (nI b) mTl mAl mPl kBs kLf 0 (bI true) mRd kRm hsh) := hD
  refine lv_aload_n hx hb dX5_readsAll_10 rfl (lv_at hl 0 rfl) ?_
  refine lv_iconst (v := 0) hx hb dX5_readsAll_11 (by decide) ?_
  refine va_put (D := D) (ci := 5) (v := .int 0) (ty := .int) (C := RX5) (T := TX5) (N := 16) hx hb hts hinX5 tyX5 tyX5_ok nmX5 hown hK hP hD hS 0 rfl rfl 14 (by decide) hw167 (fun _ h9 => h9) rfl (by decide +kernel) rfl rfl (Nat.le_of_ble_eq_true rfl) dX5_readsAll_12 (fun H locs hP hD hS => ?_)
  have hP : va_P D vwCl (MdW om xS xV xB xT xA xP xR cI thr mS mSv kSm mBf (nI b) mTl mAl mPl kBs kLf 0 (bI true) mRd 0 hsh) H := hP
  have hD : va_D (wr_in (MdW om xS xV xB xT xA xP xR cI thr mS mSv kSm mBf (nI b) mTl mAl mPl kBs kLf kAt kWl mRd kRm hsh)) (MdW om xS xV xB xT xA xP xR cI thr mS mSv kSm mBf (nI b) mTl mAl mPl kBs kLf 0 (bI true) mRd 0 hsh) := hD
  refine lv_aload_n hx hb dX5_readsAll_15 rfl (lv_at hl 0 rfl) ?_
  refine wr_callV (As := []) (rest := []) ⟨hx, hb, hml, hown, hts⟩ (c_X5_readsPoint l D hb60 (a := 0) (w := true) (Nat.zero_le b) (rm := 0) (by omega)) (cwV 0 hts gX5_readsAll_X5_readsPoint rfl rfl rfl (by decide +kernel) ⟨by decide, by decide⟩) hK hN hZ hP hD hS [0, 1, 2, 3, 4, 5, 6, 7] [0] rfl (by decide) rfl (q0 := 0) rfl rfl rfl hl.1 rfl (Nat.le_of_ble_eq_true rfl) ⟨by decide, by decide⟩ dX5_readsAll_16 (fun v9 w9 H locs hp9 hP hD hS => ?_)
  obtain ⟨rfl, rfl⟩ := hp9
  have hP : va_P D vwCl (MdW om xS xV xB xT xA xP xR cI thr mS mSv kSm mBf (nI b) mTl mAl mPl kBs kLf (nI ((psP mBf b 0 (true, 0, mRd)).2.1)) (bI ((psP mBf b 0 (true, 0, mRd)).1)) ((psP mBf b 0 (true, 0, mRd)).2.2) (nI (if (psP mBf b 0 (true, 0, mRd)).1 = true then 0 + 1 else 0)) hsh) H := hP
  have hD : va_D (wr_in (MdW om xS xV xB xT xA xP xR cI thr mS mSv kSm mBf (nI b) mTl mAl mPl kBs kLf kAt kWl mRd kRm hsh)) (MdW om xS xV xB xT xA xP xR cI thr mS mSv kSm mBf (nI b) mTl mAl mPl kBs kLf (nI ((psP mBf b 0 (true, 0, mRd)).2.1)) (bI ((psP mBf b 0 (true, 0, mRd)).1)) ((psP mBf b 0 (true, 0, mRd)).2.2) (nI (if (psP mBf b 0 (true, 0, mRd)).1 = true then 0 + 1 else 0)) hsh) := hD
  refine W.eq (g2 := F0 m 19 ls []) rfl ?_
  suffices loop19 : ∀ (k19 a1 : Nat) (w1 : Bool) (rm1 : Nat) (rd1 : Nat → Int32) (H : Heap) (locs : List Loc) (ls : Array Slot), a1 ≤ b → b + 2 ≤ a1 + k19 + (if w1 = true then 0 else 1) → (psInv mBf b (tyR mBf b 0 (tyIn td)) rm1 (w1, a1, rd1)) → va_P D vwCl (MdW om xS xV xB xT xA xP xR cI thr mS mSv kSm mBf (nI b) mTl mAl mPl kBs kLf (nI a1) (bI w1) rd1 (nI rm1) hsh) H → va_D (wr_in (MdW om xS xV xB xT xA xP xR cI thr mS mSv kSm mBf (nI b) mTl mAl mPl kBs kLf kAt kWl mRd kRm hsh)) (MdW om xS xV xB xT xA xP xR cI thr mS mSv kSm mBf (nI b) mTl mAl mPl kBs kLf (nI a1) (bI w1) rd1 (nI rm1) hsh) → va_S (wr_in (MdW om xS xV xB xT xA xP xR cI thr mS mSv kSm mBf (nI b) mTl mAl mPl kBs kLf kAt kWl mRd kRm hsh)) s.heap H locs → lv_has ls 1 [(0, .ref om)] → wr_W p l e wsX5_readsAll ({ frames := 3, cells := 0, slots := 0, locals := 66 } : Room) s m [.ref om] below meth c D (MdW om xS xV xB xT xA xP xR cI thr mS mSv kSm mBf (nI b) mTl mAl mPl kBs kLf kAt kWl mRd kRm hsh) (fun v w9 => v = none ∧ ∃ (w8 : Bool) (a8 rm8 : Nat) (rd8 : Nat → Int32), psEnd (tyR mBf b 0 (tyIn td)) w8 a8 rm8 rd8 ∧ w9 = MdW om xS xV xB xT xA xP xR cI thr mS mSv kSm mBf (nI b) mTl mAl mPl kBs kLf (nI a8) (bI w8) rd8 (nI rm8) hsh) H locs (F0 m 19 ls []) from
    loop19 (b + 2) ((psP mBf b 0 (true, 0, mRd)).2.1) ((psP mBf b 0 (true, 0, mRd)).1) (if (psP mBf b 0 (true, 0, mRd)).1 = true then 0 + 1 else 0) ((psP mBf b 0 (true, 0, mRd)).2.2) H locs ls (by exact psP_le (s := (true, 0, mRd)) (Nat.zero_le b)) (by omega) (by exact psInv_in) hP hD hS (lv_sub hl [0] rfl)
  intro k19
  induction k19 with
  | zero => intro a1 w1 rm1 rd1 H locs ls h1 h2; exact absurd h2 (by split <;> omega)
  | succ k19 ih19 =>
    intro a1 w1 rm1 rd1 H locs ls hle19 hlt19 inv19 hP hD hS hl
    refine lv_aload_n hx hb dX5_readsAll_19 rfl (lv_at hl 0 rfl) ?_
    refine va_get (D := D) (ci := 5) (v := .int (bI w1)) (C := RX5) (T := TX5) (N := 16) hx hb hts hinX5 hown hK hP 0 rfl rfl 12 (by decide) hw160 (fun _ h9 => h9) rfl dX5_readsAll_20 ?_
    refine rd_ifeq_b (tgt := 61) hx hb dX5_readsAll_23 (by decide) (fun c_23 => ?_) (fun c_23 => ?_)
    · exact wr_vret hx hb hr hlocks hP hS rfl dX5_readsAll_61 (by exact ⟨rfl, w1, a1, rm1, rd1, psInv_f c_23 inv19, rfl⟩)
    · refine lv_aload_n hx hb dX5_readsAll_26 rfl (lv_at hl 0 rfl) ?_
      refine va_get (D := D) (ci := 5) (v := .int (nI a1)) (C := RX5) (T := TX5) (N := 16) hx hb hts hinX5 hown hK hP 0 rfl rfl 11 (by decide) hw157 (fun _ h9 => h9) rfl dX5_readsAll_27 ?_
      refine lv_aload_n hx hb dX5_readsAll_30 rfl (lv_at hl 0 rfl) ?_
      refine va_get (D := D) (ci := 5) (v := .int (nI b)) (C := RX5) (T := TX5) (N := 16) hx hb hts hinX5 hown hK hP 0 rfl rfl 5 (by decide) hw154 (fun _ h9 => h9) rfl dX5_readsAll_31 ?_
      refine rd_icmp_ge_n (a := a1) (b := b) (tgt := 61) (by omega) (by omega) hx hb dX5_readsAll_34 (by decide) (fun c_34 => ?_) (fun c_34 => ?_)
      · have c_34n := Nat.not_lt.mpr c_34
        exact wr_vret hx hb hr hlocks hP hS rfl dX5_readsAll_61 (by exact ⟨rfl, w1, a1, rm1, rd1, psInv_e c_23 c_34 inv19, rfl⟩)
      · have c_34n := Nat.not_le.mpr c_34
        refine lv_aload_n hx hb dX5_readsAll_37 rfl (lv_at hl 0 rfl) ?_
        refine lv_aload_n hx hb dX5_readsAll_38 rfl (lv_at hl 0 rfl) ?_
        refine lv_bipush (v := 59) hx hb dX5_readsAll_39 (by decide) ?_
        refine wr_callV (As := [.int 59]) (rest := [.ref om]) ⟨hx, hb, hml, hown, hts⟩ (c_X5_takes l D hb60 (a := a1) (w := w1) hle19 59) (cwV 1 hts gX5_readsAll_X5_takes rfl rfl rfl (by decide +kernel) ⟨by decide, by decide⟩) hK hN hZ hP hD hS [0, 1, 2, 3, 4, 5, 6, 7] [0] rfl (by decide) rfl (q0 := 0) rfl rfl rfl hl.1 rfl (Nat.le_of_ble_eq_true rfl) ⟨by decide, by decide⟩ dX5_readsAll_41 (fun v9 w9 H locs hp9 hP hD hS => ?_)
        obtain ⟨rfl, rfl⟩ := hp9
        have hP : va_P D vwCl (MdW om xS xV xB xT xA xP xR cI thr mS mSv kSm mBf (nI b) mTl mAl mPl kBs kLf (nI (if tkB mBf b w1 59 a1 = true then a1 + 1 else a1)) (bI w1) rd1 (nI rm1) hsh) H := hP
        have hD : va_D (wr_in (MdW om xS xV xB xT xA xP xR cI thr mS mSv kSm mBf (nI b) mTl mAl mPl kBs kLf kAt kWl mRd kRm hsh)) (MdW om xS xV xB xT xA xP xR cI thr mS mSv kSm mBf (nI b) mTl mAl mPl kBs kLf (nI (if tkB mBf b w1 59 a1 = true then a1 + 1 else a1)) (bI w1) rd1 (nI rm1) hsh) := hD
        refine W.eq (g2 := F0 m 44 ls [.int (bI (tkB mBf b w1 59 a1)), .ref om]) rfl ?_
        refine va_put (D := D) (ci := 5) (v := .int (bI (tkB mBf b w1 59 a1))) (ty := .boolean) (C := RX5) (T := TX5) (N := 16) hx hb hts hinX5 tyX5 tyX5_ok nmX5 hown hK hP hD hS 0 rfl rfl 12 (by decide) hw160 (fun _ h9 => h9) rfl (by decide +kernel) (bI_n _) (bI_fit _) (Nat.le_of_ble_eq_true rfl) dX5_readsAll_44 (fun H locs hP hD hS => ?_)
        have hP : va_P D vwCl (MdW om xS xV xB xT xA xP xR cI thr mS mSv kSm mBf (nI b) mTl mAl mPl kBs kLf (nI (if tkB mBf b w1 59 a1 = true then a1 + 1 else a1)) (bI (tkB mBf b w1 59 a1)) rd1 (nI rm1) hsh) H := hP
        have hD : va_D (wr_in (MdW om xS xV xB xT xA xP xR cI thr mS mSv kSm mBf (nI b) mTl mAl mPl kBs kLf kAt kWl mRd kRm hsh)) (MdW om xS xV xB xT xA xP xR cI thr mS mSv kSm mBf (nI b) mTl mAl mPl kBs kLf (nI (if tkB mBf b w1 59 a1 = true then a1 + 1 else a1)) (bI (tkB mBf b w1 59 a1)) rd1 (nI rm1) hsh) := hD
        refine lv_aload_n hx hb dX5_readsAll_47 rfl (lv_at hl 0 rfl) ?_
        refine va_get (D := D) (ci := 5) (v := .int (bI (tkB mBf b w1 59 a1))) (C := RX5) (T := TX5) (N := 16) hx hb hts hinX5 hown hK hP 0 rfl rfl 12 (by decide) hw160 (fun _ h9 => h9) rfl dX5_readsAll_48 ?_
        refine rd_ifeq_b (tgt := 19) hx hb dX5_readsAll_51 (by decide) (fun c_51 => ?_) (fun c_51 => ?_)
        · exact ih19 (if tkB mBf b w1 59 a1 = true then a1 + 1 else a1) (tkB mBf b w1 59 a1) rm1 rd1 H locs ls (by exact psT_le (bf := mBf) (c := 59) (s := (w1, a1, rd1)) (by decide) hle19) (by simp [c_51]; simp [c_23] at hlt19; omega) (by exact psInv_no hb60 c_23 c_34 inv19 c_51) hP hD hS (lv_sub hl [0] rfl)
        · refine lv_aload_n hx hb dX5_readsAll_54 rfl (lv_at hl 0 rfl) ?_
          refine wr_callV (As := []) (rest := []) ⟨hx, hb, hml, hown, hts⟩ (c_X5_readsPoint l D hb60 (a := if tkB mBf b w1 59 a1 = true then a1 + 1 else a1) (w := tkB mBf b w1 59 a1) (psT_le (bf := mBf) (c := 59) (s := (w1, a1, rd1)) (by decide) hle19) (rm := rm1) (by have := psInv_rm hb60 c_23 c_34 inv19; omega)) (cwV 0 hts gX5_readsAll_X5_readsPoint rfl rfl rfl (by decide +kernel) ⟨by decide, by decide⟩) hK hN hZ hP hD hS [0, 1, 2, 3, 4, 5, 6, 7] [0] rfl (by decide) rfl (q0 := 0) rfl rfl rfl hl.1 rfl (Nat.le_of_ble_eq_true rfl) ⟨by decide, by decide⟩ dX5_readsAll_55 (fun v9 w9 H locs hp9 hP hD hS => ?_)
          obtain ⟨rfl, rfl⟩ := hp9
          have hP : va_P D vwCl (MdW om xS xV xB xT xA xP xR cI thr mS mSv kSm mBf (nI b) mTl mAl mPl kBs kLf (nI ((psP mBf b rm1 (tkB mBf b w1 59 a1, if tkB mBf b w1 59 a1 = true then a1 + 1 else a1, rd1)).2.1)) (bI ((psP mBf b rm1 (tkB mBf b w1 59 a1, if tkB mBf b w1 59 a1 = true then a1 + 1 else a1, rd1)).1)) ((psP mBf b rm1 (tkB mBf b w1 59 a1, if tkB mBf b w1 59 a1 = true then a1 + 1 else a1, rd1)).2.2) (nI (if (psP mBf b rm1 (tkB mBf b w1 59 a1, if tkB mBf b w1 59 a1 = true then a1 + 1 else a1, rd1)).1 = true then rm1 + 1 else rm1)) hsh) H := hP
          have hD : va_D (wr_in (MdW om xS xV xB xT xA xP xR cI thr mS mSv kSm mBf (nI b) mTl mAl mPl kBs kLf kAt kWl mRd kRm hsh)) (MdW om xS xV xB xT xA xP xR cI thr mS mSv kSm mBf (nI b) mTl mAl mPl kBs kLf (nI ((psP mBf b rm1 (tkB mBf b w1 59 a1, if tkB mBf b w1 59 a1 = true then a1 + 1 else a1, rd1)).2.1)) (bI ((psP mBf b rm1 (tkB mBf b w1 59 a1, if tkB mBf b w1 59 a1 = true then a1 + 1 else a1, rd1)).1)) ((psP mBf b rm1 (tkB mBf b w1 59 a1, if tkB mBf b w1 59 a1 = true then a1 + 1 else a1, rd1)).2.2) (nI (if (psP mBf b rm1 (tkB mBf b w1 59 a1, if tkB mBf b w1 59 a1 = true then a1 + 1 else a1, rd1)).1 = true then rm1 + 1 else rm1)) hsh) := hD
          refine W.eq (g2 := F0 m 58 ls []) rfl ?_
          refine lv_goto (tgt := 19) hx hb dX5_readsAll_58 (by decide) ?_
          exact ih19 ((psP mBf b rm1 (tkB mBf b w1 59 a1, if tkB mBf b w1 59 a1 = true then a1 + 1 else a1, rd1)).2.1) ((psP mBf b rm1 (tkB mBf b w1 59 a1, if tkB mBf b w1 59 a1 = true then a1 + 1 else a1, rd1)).1) (if (psP mBf b rm1 (tkB mBf b w1 59 a1, if tkB mBf b w1 59 a1 = true then a1 + 1 else a1, rd1)).1 = true then rm1 + 1 else rm1) ((psP mBf b rm1 (tkB mBf b w1 59 a1, if tkB mBf b w1 59 a1 = true then a1 + 1 else a1, rd1)).2.2) H locs ls (by exact psP_le (s := psT mBf b 59 (w1, a1, rd1)) (psT_le (by decide) hle19)) (by have h1 := psP_ge (bf := mBf) (b := b) (r := rm1) (s := psT mBf b 59 (w1, a1, rd1)); have h2 : (psT mBf b 59 (w1, a1, rd1)).2.1 = a1 + 1 := (by unfold psT; simp [c_51]); rw [h2] at h1; have h1 : a1 + 1 ≤ (psP mBf b rm1 (psT mBf b 59 (w1, a1, rd1))).2.1 := h1; simp [c_23] at hlt19; show b + 2 ≤ (psP mBf b rm1 (psT mBf b 59 (w1, a1, rd1))).2.1 + k19 + _; omega) (by exact psInv_go hb60 c_23 c_34 inv19 c_51) hP hD hS (lv_sub hl [0] rfl)
set_option maxHeartbeats 4000000 in
set_option maxRecDepth 100000 in
theorem c_X5_firstError (l : Launch) (D : va_G) {om xS xV xB xT xA xP xR : Nat} {cI : ClassId} {thr kSm kBs kLf kRm kAt kWl : Int32} {hsh : Int64} {mS mSv mBf mTl mAl mPl mRd : Nat → Int32} {b : Nat} (hb60 : b ≤ 60) (td : Nat → Int32) : wr_M l yX5_firstError wsX5_firstError ({ frames := 4, cells := 0, slots := 0, locals := 86 } : Room) D (MdW om xS xV xB xT xA xP xR cI thr mS mSv kSm mBf (nI b) mTl mAl mPl kBs kLf kAt kWl mRd kRm hsh) [(cI, .int)] [.ref om] (fun v w9 => ∃ (w8 : Bool) (a8 rm8 : Nat) (rd8 : Nat → Int32), psEnd (tyR mBf b 0 (tyIn td)) w8 a8 rm8 rd8 ∧ v = some (.int (nI a8)) ∧ w9 = MdW om xS xV xB xT xA xP xR cI 0 mS mSv kSm mBf (nI b) mTl mAl mPl kBs kLf (nI a8) (bI w8) rd8 (nI rm8) hsh) := by
  refine wr_of (cc := cX5_firstError) (maxL := 1) (ret := some .int) (by decide) rfl (Nat.le_of_ble_eq_true rfl) ?_
  intro p e s m below meth c hx hb hr hml hts hown hlocks hP hK hN hZ hD hS ls hl
  have hown : s.vm.findClass RX5 = some m.cls := hown
  have hl : lv_has ls 1 [(0, .ref om)] := hl
  have hinX5 : ∀ w ∈ u_ws RX5 TX5 16, w ∈ wsX5_firstError := by decide +kernel
  have hw31 := hts (.fieldLink RX5 31 "CornerLabelsModel" "thrown" "I") (by decide +kernel)
  have hw157 := hts (.fieldLink RX5 157 "CornerLabelsModel" "at" "I") (by decide +kernel)
  suffices body : ∀ (H : Heap) (locs : List Loc), va_P D vwCl (MdW om xS xV xB xT xA xP xR cI thr mS mSv kSm mBf (nI b) mTl mAl mPl kBs kLf kAt kWl mRd kRm hsh) H → va_D (wr_in (MdW om xS xV xB xT xA xP xR cI thr mS mSv kSm mBf (nI b) mTl mAl mPl kBs kLf kAt kWl mRd kRm hsh)) (MdW om xS xV xB xT xA xP xR cI thr mS mSv kSm mBf (nI b) mTl mAl mPl kBs kLf kAt kWl mRd kRm hsh) → va_S (wr_in (MdW om xS xV xB xT xA xP xR cI thr mS mSv kSm mBf (nI b) mTl mAl mPl kBs kLf kAt kWl mRd kRm hsh)) s.heap H locs → wr_W p l e wsX5_firstError ({ frames := 4, cells := 0, slots := 0, locals := 86 } : Room) s m [.ref om] below meth c D (MdW om xS xV xB xT xA xP xR cI thr mS mSv kSm mBf (nI b) mTl mAl mPl kBs kLf kAt kWl mRd kRm hsh) (fun v w9 => ∃ (w8 : Bool) (a8 rm8 : Nat) (rd8 : Nat → Int32), psEnd (tyR mBf b 0 (tyIn td)) w8 a8 rm8 rd8 ∧ v = some (.int (nI a8)) ∧ w9 = MdW om xS xV xB xT xA xP xR cI 0 mS mSv kSm mBf (nI b) mTl mAl mPl kBs kLf (nI a8) (bI w8) rd8 (nI rm8) hsh) H locs (F0 m 0 ls []) from body _ _ hP hD hS
  clear hP hD hS
  intro H locs hP hD hS
  refine lv_aload_n hx hb dX5_firstError_0 rfl (lv_at hl 0 rfl) ?_
  refine lv_iconst (v := 0) hx hb dX5_firstError_1 (by decide) ?_
  refine va_put (D := D) (ci := 5) (v := .int 0) (ty := .int) (C := RX5) (T := TX5) (N := 16) hx hb hts hinX5 tyX5 tyX5_ok nmX5 hown hK hP hD hS 0 rfl rfl 0 (by decide) hw31 (fun _ h9 => h9) rfl (by decide +kernel) rfl rfl (Nat.le_of_ble_eq_true rfl) dX5_firstError_2 (fun H locs hP hD hS => ?_)
  have hP : va_P D vwCl (MdW om xS xV xB xT xA xP xR cI 0 mS mSv kSm mBf (nI b) mTl mAl mPl kBs kLf kAt kWl mRd kRm hsh) H := hP
  have hD : va_D (wr_in (MdW om xS xV xB xT xA xP xR cI thr mS mSv kSm mBf (nI b) mTl mAl mPl kBs kLf kAt kWl mRd kRm hsh)) (MdW om xS xV xB xT xA xP xR cI 0 mS mSv kSm mBf (nI b) mTl mAl mPl kBs kLf kAt kWl mRd kRm hsh) := hD
  refine lv_aload_n hx hb dX5_firstError_5 rfl (lv_at hl 0 rfl) ?_
  refine wr_callV (As := []) (rest := []) ⟨hx, hb, hml, hown, hts⟩ (c_X5_readsAll l D hb60 td) (cwV 0 hts gX5_firstError_X5_readsAll rfl rfl rfl (by decide +kernel) ⟨by decide, by decide⟩) hK hN hZ hP hD hS [0, 1, 2, 3, 4, 5, 6, 7] [0] rfl (by decide) rfl (q0 := 0) rfl rfl rfl hl.1 rfl (Nat.le_of_ble_eq_true rfl) ⟨by decide, by decide⟩ dX5_firstError_6 (fun v9 w9 H locs hp9 hP hD hS => ?_)
  obtain ⟨rfl, w8, a8, rm8, rd8, he8, rfl⟩ := hp9
  have hP : va_P D vwCl (MdW om xS xV xB xT xA xP xR cI 0 mS mSv kSm mBf (nI b) mTl mAl mPl kBs kLf (nI a8) (bI w8) rd8 (nI rm8) hsh) H := hP
  have hD : va_D (wr_in (MdW om xS xV xB xT xA xP xR cI thr mS mSv kSm mBf (nI b) mTl mAl mPl kBs kLf kAt kWl mRd kRm hsh)) (MdW om xS xV xB xT xA xP xR cI 0 mS mSv kSm mBf (nI b) mTl mAl mPl kBs kLf (nI a8) (bI w8) rd8 (nI rm8) hsh) := hD
  refine W.eq (g2 := F0 m 9 ls []) rfl ?_
  refine lv_aload_n hx hb dX5_firstError_9 rfl (lv_at hl 0 rfl) ?_
  refine va_get (D := D) (ci := 5) (v := .int (nI a8)) (C := RX5) (T := TX5) (N := 16) hx hb hts hinX5 hown hK hP 0 rfl rfl 11 (by decide) hw157 (fun _ h9 => h9) rfl dX5_firstError_10 ?_
  exact wr_iret hx hb hr hlocks hP hS rfl dX5_firstError_13 (by exact ⟨w8, a8, rm8, rd8, he8, rfl, rfl⟩)
set_option maxHeartbeats 4000000 in
set_option maxRecDepth 100000 in
theorem c_X5_read (l : Launch) (D : va_G) {om xS xV xB xT xA xP xR : Nat} {cI : ClassId} {thr kBs kLf kRm kAt kWl : Int32} {hsh : Int64} {mS mSv mBf mTl mAl mPl mRd : Nat → Int32} {n : Nat} {P : Nat → Nat → Int32} {b : Nat} (hb60 : b ≤ 60) (td : Nat → Int32) {q : Nat} (hq6 : q ≤ 6) (hn8 : n ≤ 8) (hQ : mdS n P mS) (hbk : bd_ok n P) : wr_M l yX5_read wsX5_read ({ frames := 5, cells := 0, slots := 0, locals := 116 } : Room) D (MdW om xS xV xB xT xA xP xR cI thr mS mSv (nI q) mBf (nI b) mTl mAl mPl kBs kLf kAt kWl mRd kRm hsh) [(cI, .int)] [.ref om] (fun v w9 => ∃ (w8 : Bool) (a8 rm8 : Nat) (rd8 : Nat → Int32), psEnd (tyR mBf b 0 (tyIn td)) w8 a8 rm8 rd8 ∧ ((w8 = false ∧ v = some (.int 0) ∧ w9 = MdW om xS xV xB xT xA xP xR cI 1 mS mSv (nI q) mBf (nI b) mTl mAl mPl kBs kLf (nI a8) (bI w8) rd8 (nI rm8) hsh) ∨ (w8 = true ∧ ∃ (i9 n9 : Nat) (P9 : Nat → Nat → Int32) (S9 : Nat → Int32), mIq rd8 rm8 0 n P = (i9, n9, P9) ∧ n9 ≤ 8 ∧ bd_ok n9 P9 ∧ mdS n9 P9 S9 ∧ v = some (.int (nI i9)) ∧ w9 = MdW om xS xV xB xT xA xP xR cI 0 S9 (svF q mSv mS) (nI ((if q < 6 then q else 5) + 1)) mBf 0 mTl mAl mPl kBs kLf (nI a8) (bI w8) rd8 (nI rm8) hsh))) := by
  refine wr_of (cc := cX5_read) (maxL := 2) (ret := some .int) (by decide) rfl (Nat.le_of_ble_eq_true rfl) ?_
  intro p e s m below meth c hx hb hr hml hts hown hlocks hP hK hN hZ hD hS ls hl
  have hown : s.vm.findClass RX5 = some m.cls := hown
  have hl : lv_has ls 2 [(0, .ref om)] := hl
  have hinX5 : ∀ w ∈ u_ws RX5 TX5 16, w ∈ wsX5_read := by decide +kernel
  have hw31 := hts (.fieldLink RX5 31 "CornerLabelsModel" "thrown" "I") (by decide +kernel)
  have hw160 := hts (.fieldLink RX5 160 "CornerLabelsModel" "isWell" "Z") (by decide +kernel)
  have hw154 := hts (.fieldLink RX5 154 "CornerLabelsModel" "length" "I") (by decide +kernel)
  have hw167 := hts (.fieldLink RX5 167 "CornerLabelsModel" "readMany" "I") (by decide +kernel)
  have hw28 := hts (.fieldLink RX5 28 "CornerLabelsModel" "read" "[I") (by decide +kernel)
  suffices body : ∀ (H : Heap) (locs : List Loc), va_P D vwCl (MdW om xS xV xB xT xA xP xR cI thr mS mSv (nI q) mBf (nI b) mTl mAl mPl kBs kLf kAt kWl mRd kRm hsh) H → va_D (wr_in (MdW om xS xV xB xT xA xP xR cI thr mS mSv (nI q) mBf (nI b) mTl mAl mPl kBs kLf kAt kWl mRd kRm hsh)) (MdW om xS xV xB xT xA xP xR cI thr mS mSv (nI q) mBf (nI b) mTl mAl mPl kBs kLf kAt kWl mRd kRm hsh) → va_S (wr_in (MdW om xS xV xB xT xA xP xR cI thr mS mSv (nI q) mBf (nI b) mTl mAl mPl kBs kLf kAt kWl mRd kRm hsh)) s.heap H locs → wr_W p l e wsX5_read ({ frames := 5, cells := 0, slots := 0, locals := 116 } : Room) s m [.ref om] below meth c D (MdW om xS xV xB xT xA xP xR cI thr mS mSv (nI q) mBf (nI b) mTl mAl mPl kBs kLf kAt kWl mRd kRm hsh) (fun v w9 => ∃ (w8 : Bool) (a8 rm8 : Nat) (rd8 : Nat → Int32), psEnd (tyR mBf b 0 (tyIn td)) w8 a8 rm8 rd8 ∧ ((w8 = false ∧ v = some (.int 0) ∧ w9 = MdW om xS xV xB xT xA xP xR cI 1 mS mSv (nI q) mBf (nI b) mTl mAl mPl kBs kLf (nI a8) (bI w8) rd8 (nI rm8) hsh) ∨ (w8 = true ∧ ∃ (i9 n9 : Nat) (P9 : Nat → Nat → Int32) (S9 : Nat → Int32), mIq rd8 rm8 0 n P = (i9, n9, P9) ∧ n9 ≤ 8 ∧ bd_ok n9 P9 ∧ mdS n9 P9 S9 ∧ v = some (.int (nI i9)) ∧ w9 = MdW om xS xV xB xT xA xP xR cI 0 S9 (svF q mSv mS) (nI ((if q < 6 then q else 5) + 1)) mBf 0 mTl mAl mPl kBs kLf (nI a8) (bI w8) rd8 (nI rm8) hsh))) H locs (F0 m 0 ls []) from body _ _ hP hD hS
  clear hP hD hS
  intro H locs hP hD hS
  refine lv_aload_n hx hb dX5_read_0 rfl (lv_at hl 0 rfl) ?_
  refine lv_iconst (v := 0) hx hb dX5_read_1 (by decide) ?_
  refine va_put (D := D) (ci := 5) (v := .int 0) (ty := .int) (C := RX5) (T := TX5) (N := 16) hx hb hts hinX5 tyX5 tyX5_ok nmX5 hown hK hP hD hS 0 rfl rfl 0 (by decide) hw31 (fun _ h9 => h9) rfl (by decide +kernel) rfl rfl (Nat.le_of_ble_eq_true rfl) dX5_read_2 (fun H locs hP hD hS => ?_)
  have hP : va_P D vwCl (MdW om xS xV xB xT xA xP xR cI 0 mS mSv (nI q) mBf (nI b) mTl mAl mPl kBs kLf kAt kWl mRd kRm hsh) H := hP
  have hD : va_D (wr_in (MdW om xS xV xB xT xA xP xR cI thr mS mSv (nI q) mBf (nI b) mTl mAl mPl kBs kLf kAt kWl mRd kRm hsh)) (MdW om xS xV xB xT xA xP xR cI 0 mS mSv (nI q) mBf (nI b) mTl mAl mPl kBs kLf kAt kWl mRd kRm hsh) := hD
  refine lv_aload_n hx hb dX5_read_5 rfl (lv_at hl 0 rfl) ?_
  refine wr_callV (As := []) (rest := []) ⟨hx, hb, hml, hown, hts⟩ (c_X5_readsAll l D hb60 td) (cwV 0 hts gX5_read_X5_readsAll rfl rfl rfl (by decide +kernel) ⟨by decide, by decide⟩) hK hN hZ hP hD hS [0, 1, 2, 3, 4, 5, 6, 7] [0] rfl (by decide) rfl (q0 := 0) rfl rfl rfl hl.1 rfl (Nat.le_of_ble_eq_true rfl) ⟨by decide, by decide⟩ dX5_read_6 (fun v9 w9 H locs hp9 hP hD hS => ?_)
  obtain ⟨rfl, w8, a8, rm8, rd8, he8, rfl⟩ := hp9
  have hP : va_P D vwCl (MdW om xS xV xB xT xA xP xR cI 0 mS mSv (nI q) mBf (nI b) mTl mAl mPl kBs kLf (nI a8) (bI w8) rd8 (nI rm8) hsh) H := hP
  have hD : va_D (wr_in (MdW om xS xV xB xT xA xP xR cI thr mS mSv (nI q) mBf (nI b) mTl mAl mPl kBs kLf kAt kWl mRd kRm hsh)) (MdW om xS xV xB xT xA xP xR cI 0 mS mSv (nI q) mBf (nI b) mTl mAl mPl kBs kLf (nI a8) (bI w8) rd8 (nI rm8) hsh) := hD
  refine W.eq (g2 := F0 m 9 ls []) rfl ?_
  refine lv_aload_n hx hb dX5_read_9 rfl (lv_at hl 0 rfl) ?_
  refine va_get (D := D) (ci := 5) (v := .int (bI w8)) (C := RX5) (T := TX5) (N := 16) hx hb hts hinX5 hown hK hP 0 rfl rfl 12 (by decide) hw160 (fun _ h9 => h9) rfl dX5_read_10 ?_
  refine rd_ifne_b (tgt := 22) hx hb dX5_read_13 (by decide) (fun c_13 => ?_) (fun c_13 => ?_)
  · have hr8 : rm8 ≤ 8 := psEnd_rm he8 c_13
    refine lv_aload_n hx hb dX5_read_22 rfl (lv_at hl 0 rfl) ?_
    refine wr_callV (As := []) (rest := []) ⟨hx, hb, hml, hown, hts⟩ (c_X5_saves l D (q := q) hq6) (cwV 0 hts gX5_read_X5_saves rfl rfl rfl (by decide +kernel) ⟨by decide, by decide⟩) hK hN hZ hP hD hS [0, 1, 2, 3, 4, 5, 6, 7] [0] rfl (by decide) rfl (q0 := 0) rfl rfl rfl hl.1 rfl (Nat.le_of_ble_eq_true rfl) ⟨by decide, by decide⟩ dX5_read_23 (fun v9 w9 H locs hp9 hP hD hS => ?_)
    obtain ⟨rfl, rfl⟩ := hp9
    have hP : va_P D vwCl (MdW om xS xV xB xT xA xP xR cI 0 mS (svF q mSv mS) (nI ((if q < 6 then q else 5) + 1)) mBf (nI b) mTl mAl mPl kBs kLf (nI a8) (bI w8) rd8 (nI rm8) hsh) H := hP
    have hD : va_D (wr_in (MdW om xS xV xB xT xA xP xR cI thr mS mSv (nI q) mBf (nI b) mTl mAl mPl kBs kLf kAt kWl mRd kRm hsh)) (MdW om xS xV xB xT xA xP xR cI 0 mS (svF q mSv mS) (nI ((if q < 6 then q else 5) + 1)) mBf (nI b) mTl mAl mPl kBs kLf (nI a8) (bI w8) rd8 (nI rm8) hsh) := hD
    refine W.eq (g2 := F0 m 26 ls []) rfl ?_
    refine lv_aload_n hx hb dX5_read_26 rfl (lv_at hl 0 rfl) ?_
    refine lv_iconst (v := 0) hx hb dX5_read_27 (by decide) ?_
    refine va_put (D := D) (ci := 5) (v := .int 0) (ty := .int) (C := RX5) (T := TX5) (N := 16) hx hb hts hinX5 tyX5 tyX5_ok nmX5 hown hK hP hD hS 0 rfl rfl 5 (by decide) hw154 (fun _ h9 => h9) rfl (by decide +kernel) rfl rfl (Nat.le_of_ble_eq_true rfl) dX5_read_28 (fun H locs hP hD hS => ?_)
    have hP : va_P D vwCl (MdW om xS xV xB xT xA xP xR cI 0 mS (svF q mSv mS) (nI ((if q < 6 then q else 5) + 1)) mBf 0 mTl mAl mPl kBs kLf (nI a8) (bI w8) rd8 (nI rm8) hsh) H := hP
    have hD : va_D (wr_in (MdW om xS xV xB xT xA xP xR cI thr mS mSv (nI q) mBf (nI b) mTl mAl mPl kBs kLf kAt kWl mRd kRm hsh)) (MdW om xS xV xB xT xA xP xR cI 0 mS (svF q mSv mS) (nI ((if q < 6 then q else 5) + 1)) mBf 0 mTl mAl mPl kBs kLf (nI a8) (bI w8) rd8 (nI rm8) hsh) := hD
    refine lv_iconst (v := 0) hx hb dX5_read_31 (by decide) ?_
    refine lv_istore_n (lv' := [(1, .int 0), (0, .ref om)]) hx hb dX5_read_32 rfl hl (by decide) rfl (fun ls hl => ?_)
    suffices loop33 : ∀ (k33 i : Nat) (S1 : Nat → Int32) (H : Heap) (locs : List Loc) (ls : Array Slot), i ≤ rm8 → rm8 + 1 ≤ i + k33 → (∃ (n1 : Nat) (P1 : Nat → Nat → Int32), n1 ≤ 8 ∧ mdS n1 P1 S1 ∧ bd_ok n1 P1 ∧ mIq rd8 rm8 i n1 P1 = mIq rd8 rm8 0 n P) → va_P D vwCl (MdW om xS xV xB xT xA xP xR cI 0 S1 (svF q mSv mS) (nI ((if q < 6 then q else 5) + 1)) mBf 0 mTl mAl mPl kBs kLf (nI a8) (bI w8) rd8 (nI rm8) hsh) H → va_D (wr_in (MdW om xS xV xB xT xA xP xR cI thr mS mSv (nI q) mBf (nI b) mTl mAl mPl kBs kLf kAt kWl mRd kRm hsh)) (MdW om xS xV xB xT xA xP xR cI 0 S1 (svF q mSv mS) (nI ((if q < 6 then q else 5) + 1)) mBf 0 mTl mAl mPl kBs kLf (nI a8) (bI w8) rd8 (nI rm8) hsh) → va_S (wr_in (MdW om xS xV xB xT xA xP xR cI thr mS mSv (nI q) mBf (nI b) mTl mAl mPl kBs kLf kAt kWl mRd kRm hsh)) s.heap H locs → lv_has ls 2 [(0, .ref om), (1, .int (nI i))] → wr_W p l e wsX5_read ({ frames := 5, cells := 0, slots := 0, locals := 116 } : Room) s m [.ref om] below meth c D (MdW om xS xV xB xT xA xP xR cI thr mS mSv (nI q) mBf (nI b) mTl mAl mPl kBs kLf kAt kWl mRd kRm hsh) (fun v w9 => ∃ (w8 : Bool) (a8 rm8 : Nat) (rd8 : Nat → Int32), psEnd (tyR mBf b 0 (tyIn td)) w8 a8 rm8 rd8 ∧ ((w8 = false ∧ v = some (.int 0) ∧ w9 = MdW om xS xV xB xT xA xP xR cI 1 mS mSv (nI q) mBf (nI b) mTl mAl mPl kBs kLf (nI a8) (bI w8) rd8 (nI rm8) hsh) ∨ (w8 = true ∧ ∃ (i9 n9 : Nat) (P9 : Nat → Nat → Int32) (S9 : Nat → Int32), mIq rd8 rm8 0 n P = (i9, n9, P9) ∧ n9 ≤ 8 ∧ bd_ok n9 P9 ∧ mdS n9 P9 S9 ∧ v = some (.int (nI i9)) ∧ w9 = MdW om xS xV xB xT xA xP xR cI 0 S9 (svF q mSv mS) (nI ((if q < 6 then q else 5) + 1)) mBf 0 mTl mAl mPl kBs kLf (nI a8) (bI w8) rd8 (nI rm8) hsh))) H locs (F0 m 33 ls []) from
      loop33 (rm8 + 1) 0 mS H locs ls (by omega) (by omega) (by exact ⟨n, P, hn8, hQ, hbk, rfl⟩) hP hD hS (lv_sub hl [1, 0] rfl)
    intro k33
    induction k33 with
    | zero => intro i S1 H locs ls h1 h2; exact absurd h2 (by omega)
    | succ k33 ih33 =>
      intro i S1 H locs ls hle33 hlt33 inv33 hP hD hS hl
      obtain ⟨n1, P1, hn1, hQ1, hbk1, hI1⟩ := inv33
      refine lv_iload_n hx hb dX5_read_33 rfl (lv_at hl 1 rfl) ?_
      refine lv_aload_n hx hb dX5_read_34 rfl (lv_at hl 0 rfl) ?_
      refine va_get (D := D) (ci := 5) (v := .int (nI rm8)) (C := RX5) (T := TX5) (N := 16) hx hb hts hinX5 hown hK hP 0 rfl rfl 14 (by decide) hw167 (fun _ h9 => h9) rfl dX5_read_35 ?_
      refine rd_icmp_ge_n (a := i) (b := rm8) (tgt := 154) (by omega) (by omega) hx hb dX5_read_38 (by decide) (fun c_38 => ?_) (fun c_38 => ?_)
      · have c_38n := Nat.not_lt.mpr c_38
        refine lv_iload_n hx hb dX5_read_154 rfl (lv_at hl 1 rfl) ?_
        exact wr_iret hx hb hr hlocks hP hS rfl dX5_read_155 (by exact ⟨w8, a8, rm8, rd8, he8, Or.inr ⟨c_13, i, n1, P1, S1, by rw [← hI1, mIq_end c_38], hn1, hbk1, hQ1, rfl, rfl⟩⟩)
      · have c_38n := Nat.not_le.mpr c_38
        refine lv_aload_n hx hb dX5_read_41 rfl (lv_at hl 0 rfl) ?_
        refine lv_aload_n hx hb dX5_read_42 rfl (lv_at hl 0 rfl) ?_
        refine va_get (D := D) (ci := 5) (v := .ref xR) (C := RX5) (T := TX5) (N := 16) hx hb hts hinX5 hown hK hP 0 rfl rfl 13 (by decide) hw28 (fun _ h9 => h9) rfl dX5_read_43 ?_
        refine lv_iconst (v := 5) hx hb dX5_read_46 (by decide) ?_
        refine lv_iload_n hx hb dX5_read_47 rfl (lv_at hl 1 rfl) ?_
        refine lv_imul hx hb dX5_read_48 ?_
        refine lv_asi (y := nI (5 * i)) (pk_mul 5 i) ?_
        refine rd_ald (q0 := 7) (t0 := 0) (j := 5 * i) (v := rd8 (5 * i)) hx hb hK hP rfl rfl (rfl) (by omega) (by decide) (rfl) dX5_read_49 ?_
        refine lv_aload_n hx hb dX5_read_50 rfl (lv_at hl 0 rfl) ?_
        refine va_get (D := D) (ci := 5) (v := .ref xR) (C := RX5) (T := TX5) (N := 16) hx hb hts hinX5 hown hK hP 0 rfl rfl 13 (by decide) hw28 (fun _ h9 => h9) rfl dX5_read_51 ?_
        refine lv_iconst (v := 5) hx hb dX5_read_54 (by decide) ?_
        refine lv_iload_n hx hb dX5_read_55 rfl (lv_at hl 1 rfl) ?_
        refine lv_imul hx hb dX5_read_56 ?_
        refine lv_asi (y := nI (5 * i)) (pk_mul 5 i) ?_
        refine lv_iconst (v := 1) hx hb dX5_read_57 (by decide) ?_
        refine lv_iadd hx hb dX5_read_58 ?_
        refine lv_asi (y := nI ((5 * i) + 1)) (nI_add (5 * i) 1) ?_
        refine rd_ald (q0 := 7) (t0 := 0) (j := (5 * i) + 1) (v := rd8 ((5 * i) + 1)) hx hb hK hP rfl rfl (rfl) (by omega) (by decide) (rfl) dX5_read_59 ?_
        refine lv_aload_n hx hb dX5_read_60 rfl (lv_at hl 0 rfl) ?_
        refine va_get (D := D) (ci := 5) (v := .ref xR) (C := RX5) (T := TX5) (N := 16) hx hb hts hinX5 hown hK hP 0 rfl rfl 13 (by decide) hw28 (fun _ h9 => h9) rfl dX5_read_61 ?_
        refine lv_iconst (v := 5) hx hb dX5_read_64 (by decide) ?_
        refine lv_iload_n hx hb dX5_read_65 rfl (lv_at hl 1 rfl) ?_
        refine lv_imul hx hb dX5_read_66 ?_
        refine lv_asi (y := nI (5 * i)) (pk_mul 5 i) ?_
        refine lv_iconst (v := 2) hx hb dX5_read_67 (by decide) ?_
        refine lv_iadd hx hb dX5_read_68 ?_
        refine lv_asi (y := nI ((5 * i) + 2)) (nI_add (5 * i) 2) ?_
        refine rd_ald (q0 := 7) (t0 := 0) (j := (5 * i) + 2) (v := rd8 ((5 * i) + 2)) hx hb hK hP rfl rfl (rfl) (by omega) (by decide) (rfl) dX5_read_69 ?_
        refine lv_aload_n hx hb dX5_read_70 rfl (lv_at hl 0 rfl) ?_
        refine va_get (D := D) (ci := 5) (v := .ref xR) (C := RX5) (T := TX5) (N := 16) hx hb hts hinX5 hown hK hP 0 rfl rfl 13 (by decide) hw28 (fun _ h9 => h9) rfl dX5_read_71 ?_
        refine lv_iconst (v := 5) hx hb dX5_read_74 (by decide) ?_
        refine lv_iload_n hx hb dX5_read_75 rfl (lv_at hl 1 rfl) ?_
        refine lv_imul hx hb dX5_read_76 ?_
        refine lv_asi (y := nI (5 * i)) (pk_mul 5 i) ?_
        refine lv_iconst (v := 3) hx hb dX5_read_77 (by decide) ?_
        refine lv_iadd hx hb dX5_read_78 ?_
        refine lv_asi (y := nI ((5 * i) + 3)) (nI_add (5 * i) 3) ?_
        refine rd_ald (q0 := 7) (t0 := 0) (j := (5 * i) + 3) (v := rd8 ((5 * i) + 3)) hx hb hK hP rfl rfl (rfl) (by omega) (by decide) (rfl) dX5_read_79 ?_
        refine lv_aload_n hx hb dX5_read_80 rfl (lv_at hl 0 rfl) ?_
        refine va_get (D := D) (ci := 5) (v := .ref xR) (C := RX5) (T := TX5) (N := 16) hx hb hts hinX5 hown hK hP 0 rfl rfl 13 (by decide) hw28 (fun _ h9 => h9) rfl dX5_read_81 ?_
        refine lv_iconst (v := 5) hx hb dX5_read_84 (by decide) ?_
        refine lv_iload_n hx hb dX5_read_85 rfl (lv_at hl 1 rfl) ?_
        refine lv_imul hx hb dX5_read_86 ?_
        refine lv_asi (y := nI (5 * i)) (pk_mul 5 i) ?_
        refine lv_iconst (v := 4) hx hb dX5_read_87 (by decide) ?_
        refine lv_iadd hx hb dX5_read_88 ?_
        refine lv_asi (y := nI ((5 * i) + 4)) (nI_add (5 * i) 4) ?_
        refine rd_ald (q0 := 7) (t0 := 0) (j := (5 * i) + 4) (v := rd8 ((5 * i) + 4)) hx hb hK hP rfl rfl (rfl) (by omega) (by decide) (rfl) dX5_read_89 ?_
        have hmd : md_in (MdW om xS xV xB xT xA xP xR cI 0 S1 (svF q mSv mS) (nI ((if q < 6 then q else 5) + 1)) mBf 0 mTl mAl mPl kBs kLf (nI a8) (bI w8) rd8 (nI rm8) hsh) [(cI, .int)] om n1 P1 := ⟨0, 1, 0, xS, cI, S1, _, rfl, rfl, rfl, rfl, hn1, hQ1.1, hQ1.2, hbk1⟩
        refine rd_callV (As := [.int (rd8 (5 * i)), .int (rd8 ((5 * i) + 1)), .int (rd8 ((5 * i) + 2)), .int (rd8 ((5 * i) + 3)), .int (rd8 ((5 * i) + 4))]) (rest := []) ⟨hx, hb, hml, hown, hts⟩ (c_X5_refusesAdd l D hmd (rd8 (5 * i)) (rd8 ((5 * i) + 1)) (rd8 ((5 * i) + 2)) (rd8 ((5 * i) + 3)) (rd8 ((5 * i) + 4))) (cwV 5 hts gX5_read_X5_refusesAdd rfl rfl rfl (by decide +kernel) ⟨by decide, by decide⟩) hK hN hP (q0 := 0) rfl rfl rfl hl.1 rfl (Nat.le_of_ble_eq_true rfl) ⟨by decide, by decide⟩ dX5_read_90 ?_
        refine lv_if_ne (tgt := 154) hx hb dX5_read_93 (by decide) (fun c_93 => ?_) (fun c_93 => ?_)
        · refine lv_iload_n hx hb dX5_read_154 rfl (lv_at hl 1 rfl) ?_
          exact wr_iret hx hb hr hlocks hP hS rfl dX5_read_155 (by exact ⟨w8, a8, rm8, rd8, he8, Or.inr ⟨c_13, i, n1, P1, S1, by rw [← hI1, mIq_no c_38 c_93], hn1, hbk1, hQ1, rfl, rfl⟩⟩)
        · refine lv_aload_n hx hb dX5_read_96 rfl (lv_at hl 0 rfl) ?_
          refine lv_aload_n hx hb dX5_read_97 rfl (lv_at hl 0 rfl) ?_
          refine va_get (D := D) (ci := 5) (v := .ref xR) (C := RX5) (T := TX5) (N := 16) hx hb hts hinX5 hown hK hP 0 rfl rfl 13 (by decide) hw28 (fun _ h9 => h9) rfl dX5_read_98 ?_
          refine lv_iconst (v := 5) hx hb dX5_read_101 (by decide) ?_
          refine lv_iload_n hx hb dX5_read_102 rfl (lv_at hl 1 rfl) ?_
          refine lv_imul hx hb dX5_read_103 ?_
          refine lv_asi (y := nI (5 * i)) (pk_mul 5 i) ?_
          refine rd_ald (q0 := 7) (t0 := 0) (j := 5 * i) (v := rd8 (5 * i)) hx hb hK hP rfl rfl (rfl) (by omega) (by decide) (rfl) dX5_read_104 ?_
          refine lv_aload_n hx hb dX5_read_105 rfl (lv_at hl 0 rfl) ?_
          refine va_get (D := D) (ci := 5) (v := .ref xR) (C := RX5) (T := TX5) (N := 16) hx hb hts hinX5 hown hK hP 0 rfl rfl 13 (by decide) hw28 (fun _ h9 => h9) rfl dX5_read_106 ?_
          refine lv_iconst (v := 5) hx hb dX5_read_109 (by decide) ?_
          refine lv_iload_n hx hb dX5_read_110 rfl (lv_at hl 1 rfl) ?_
          refine lv_imul hx hb dX5_read_111 ?_
          refine lv_asi (y := nI (5 * i)) (pk_mul 5 i) ?_
          refine lv_iconst (v := 1) hx hb dX5_read_112 (by decide) ?_
          refine lv_iadd hx hb dX5_read_113 ?_
          refine lv_asi (y := nI ((5 * i) + 1)) (nI_add (5 * i) 1) ?_
          refine rd_ald (q0 := 7) (t0 := 0) (j := (5 * i) + 1) (v := rd8 ((5 * i) + 1)) hx hb hK hP rfl rfl (rfl) (by omega) (by decide) (rfl) dX5_read_114 ?_
          refine lv_aload_n hx hb dX5_read_115 rfl (lv_at hl 0 rfl) ?_
          refine va_get (D := D) (ci := 5) (v := .ref xR) (C := RX5) (T := TX5) (N := 16) hx hb hts hinX5 hown hK hP 0 rfl rfl 13 (by decide) hw28 (fun _ h9 => h9) rfl dX5_read_116 ?_
          refine lv_iconst (v := 5) hx hb dX5_read_119 (by decide) ?_
          refine lv_iload_n hx hb dX5_read_120 rfl (lv_at hl 1 rfl) ?_
          refine lv_imul hx hb dX5_read_121 ?_
          refine lv_asi (y := nI (5 * i)) (pk_mul 5 i) ?_
          refine lv_iconst (v := 2) hx hb dX5_read_122 (by decide) ?_
          refine lv_iadd hx hb dX5_read_123 ?_
          refine lv_asi (y := nI ((5 * i) + 2)) (nI_add (5 * i) 2) ?_
          refine rd_ald (q0 := 7) (t0 := 0) (j := (5 * i) + 2) (v := rd8 ((5 * i) + 2)) hx hb hK hP rfl rfl (rfl) (by omega) (by decide) (rfl) dX5_read_124 ?_
          refine lv_aload_n hx hb dX5_read_125 rfl (lv_at hl 0 rfl) ?_
          refine va_get (D := D) (ci := 5) (v := .ref xR) (C := RX5) (T := TX5) (N := 16) hx hb hts hinX5 hown hK hP 0 rfl rfl 13 (by decide) hw28 (fun _ h9 => h9) rfl dX5_read_126 ?_
          refine lv_iconst (v := 5) hx hb dX5_read_129 (by decide) ?_
          refine lv_iload_n hx hb dX5_read_130 rfl (lv_at hl 1 rfl) ?_
          refine lv_imul hx hb dX5_read_131 ?_
          refine lv_asi (y := nI (5 * i)) (pk_mul 5 i) ?_
          refine lv_iconst (v := 3) hx hb dX5_read_132 (by decide) ?_
          refine lv_iadd hx hb dX5_read_133 ?_
          refine lv_asi (y := nI ((5 * i) + 3)) (nI_add (5 * i) 3) ?_
          refine rd_ald (q0 := 7) (t0 := 0) (j := (5 * i) + 3) (v := rd8 ((5 * i) + 3)) hx hb hK hP rfl rfl (rfl) (by omega) (by decide) (rfl) dX5_read_134 ?_
          refine lv_aload_n hx hb dX5_read_135 rfl (lv_at hl 0 rfl) ?_
          refine va_get (D := D) (ci := 5) (v := .ref xR) (C := RX5) (T := TX5) (N := 16) hx hb hts hinX5 hown hK hP 0 rfl rfl 13 (by decide) hw28 (fun _ h9 => h9) rfl dX5_read_136 ?_
          refine lv_iconst (v := 5) hx hb dX5_read_139 (by decide) ?_
          refine lv_iload_n hx hb dX5_read_140 rfl (lv_at hl 1 rfl) ?_
          refine lv_imul hx hb dX5_read_141 ?_
          refine lv_asi (y := nI (5 * i)) (pk_mul 5 i) ?_
          refine lv_iconst (v := 4) hx hb dX5_read_142 (by decide) ?_
          refine lv_iadd hx hb dX5_read_143 ?_
          refine lv_asi (y := nI ((5 * i) + 4)) (nI_add (5 * i) 4) ?_
          refine rd_ald (q0 := 7) (t0 := 0) (j := (5 * i) + 4) (v := rd8 ((5 * i) + 4)) hx hb hK hP rfl rfl (rfl) (by omega) (by decide) (rfl) dX5_read_144 ?_
          refine wr_callV (As := [.int (rd8 (5 * i)), .int (rd8 ((5 * i) + 1)), .int (rd8 ((5 * i) + 2)), .int (rd8 ((5 * i) + 3)), .int (rd8 ((5 * i) + 4))]) (rest := []) ⟨hx, hb, hml, hown, hts⟩ (c_X5_comes l D (q := (if q < 6 then q else 5) + 1) (by split <;> omega) (mRef_lt hn1 c_93) hQ1 hbk1 (rd8 (5 * i)) (rd8 ((5 * i) + 1)) (rd8 ((5 * i) + 2)) (rd8 ((5 * i) + 3)) (rd8 ((5 * i) + 4))) (cwV 5 hts gX5_read_X5_comes rfl rfl rfl (by decide +kernel) ⟨by decide, by decide⟩) hK hN hZ hP hD hS [0, 1, 2, 3, 4, 5, 6, 7] [0] rfl (by decide) rfl (q0 := 0) rfl rfl rfl hl.1 rfl (Nat.le_of_ble_eq_true rfl) ⟨by decide, by decide⟩ dX5_read_145 (fun v9 w9 H locs hp9 hP hD hS => ?_)
          obtain ⟨rfl, S9, hS9, rfl⟩ := hp9
          have hP : va_P D vwCl (MdW om xS xV xB xT xA xP xR cI 0 S9 (svF q mSv mS) (nI ((if q < 6 then q else 5) + 1)) mBf 0 mTl mAl mPl kBs kLf (nI a8) (bI w8) rd8 (nI rm8) hsh) H := hP
          have hD : va_D (wr_in (MdW om xS xV xB xT xA xP xR cI thr mS mSv (nI q) mBf (nI b) mTl mAl mPl kBs kLf kAt kWl mRd kRm hsh)) (MdW om xS xV xB xT xA xP xR cI 0 S9 (svF q mSv mS) (nI ((if q < 6 then q else 5) + 1)) mBf 0 mTl mAl mPl kBs kLf (nI a8) (bI w8) rd8 (nI rm8) hsh) := hD
          refine W.eq (g2 := F0 m 148 ls []) rfl ?_
          refine lv_iinc (v := nI (i + 1)) (lv' := [(1, .int (nI (i + 1))), (0, .ref om)]) hx hb dX5_read_148 hl (k := 1) rfl (nI_add i 1) (by decide) rfl (fun ls hl => ?_)
          refine lv_goto (tgt := 33) hx hb dX5_read_151 (by decide) ?_
          exact ih33 (i + 1) S9 H locs ls (by omega) (by omega) (by exact ⟨n1 + 1, _, Nat.succ_le_of_lt (mRef_lt hn1 c_93), hS9, bd_ok_ins hbk1 c_93, (mIq_go c_38 c_93).symm.trans hI1⟩) hP hD hS (lv_sub hl [1, 0] rfl)
  · refine lv_aload_n hx hb dX5_read_16 rfl (lv_at hl 0 rfl) ?_
    refine lv_iconst (v := 1) hx hb dX5_read_17 (by decide) ?_
    refine wr_callV (As := [.int 1]) (rest := []) ⟨hx, hb, hml, hown, hts⟩ (c_X5_fails l D 1) (cwV 1 hts gX5_read_X5_fails rfl rfl rfl (by decide +kernel) ⟨by decide, by decide⟩) hK hN hZ hP hD hS [0, 1, 2, 3, 4, 5, 6, 7] [0] rfl (by decide) rfl (q0 := 0) rfl rfl rfl hl.1 rfl (Nat.le_of_ble_eq_true rfl) ⟨by decide, by decide⟩ dX5_read_18 (fun v9 w9 H locs hp9 hP hD hS => ?_)
    obtain ⟨rfl, rfl⟩ := hp9
    have hP : va_P D vwCl (MdW om xS xV xB xT xA xP xR cI 1 mS mSv (nI q) mBf (nI b) mTl mAl mPl kBs kLf (nI a8) (bI w8) rd8 (nI rm8) hsh) H := hP
    have hD : va_D (wr_in (MdW om xS xV xB xT xA xP xR cI thr mS mSv (nI q) mBf (nI b) mTl mAl mPl kBs kLf kAt kWl mRd kRm hsh)) (MdW om xS xV xB xT xA xP xR cI 1 mS mSv (nI q) mBf (nI b) mTl mAl mPl kBs kLf (nI a8) (bI w8) rd8 (nI rm8) hsh) := hD
    refine W.eq (g2 := F0 m 21 ls [.int 0]) rfl ?_
    exact wr_iret hx hb hr hlocks hP hS rfl dX5_read_21 (by exact ⟨w8, a8, rm8, rd8, he8, Or.inl ⟨c_13, rfl, rfl⟩⟩)
