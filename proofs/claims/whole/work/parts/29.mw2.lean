set_option maxHeartbeats 4000000 in
set_option maxRecDepth 100000 in
theorem c_X5_comes (l : Launch) (D : va_G) {om xS xV xB xT xA xP xR : Nat} {cI : ClassId} {thr kLn kBs kLf kAt kWl kRm : Int32} {hsh : Int64} {mS mSv mBf mTl mAl mPl mRd : Nat → Int32} {n : Nat} {P : Nat → Nat → Int32} {q : Nat} (hq6 : q ≤ 6) (hn8 : n < 8) (hQ : mdS n P mS) (hbk : bd_ok n P) (x y wd hg wt : Int32) : wr_M l yX5_comes wsX5_comes ({ frames := 4, cells := 0, slots := 0, locals := 90 } : Room) D (MdW om xS xV xB xT xA xP xR cI thr mS mSv (nI q) mBf kLn mTl mAl mPl kBs kLf kAt kWl mRd kRm hsh) [(cI, .int)] [.ref om, .int x, .int y, .int wd, .int hg, .int wt] (fun v w9 => v = none ∧ ∃ S9 : Nat → Int32, mdS (n + 1) (mIns n P x y wd hg wt) S9 ∧ w9 = MdW om xS xV xB xT xA xP xR cI thr S9 mSv (nI q) mBf kLn mTl mAl mPl kBs kLf kAt kWl mRd kRm hsh) := by
  refine wr_of (cc := cX5_comes) (maxL := 7) (ret := none) (by decide) rfl (Nat.le_of_ble_eq_true rfl) ?_
  intro p e s m below meth c hx hb hr hml hts hown hlocks hP hK hN hZ hD hS ls hl
  have hown : s.vm.findClass RX5 = some m.cls := hown
  have hl : lv_has ls 7 [(0, .ref om), (1, .int x), (2, .int y), (3, .int wd), (4, .int hg), (5, .int wt)] := hl
  have hinX5 : ∀ w ∈ u_ws RX5 TX5 16, w ∈ wsX5_comes := by decide +kernel
  have hw7 := hts (.fieldLink RX5 7 "CornerLabelsModel" "s" "[I") (by decide +kernel)
  suffices body : ∀ (H : Heap) (locs : List Loc), va_P D vwCl (MdW om xS xV xB xT xA xP xR cI thr mS mSv (nI q) mBf kLn mTl mAl mPl kBs kLf kAt kWl mRd kRm hsh) H → va_D (wr_in (MdW om xS xV xB xT xA xP xR cI thr mS mSv (nI q) mBf kLn mTl mAl mPl kBs kLf kAt kWl mRd kRm hsh)) (MdW om xS xV xB xT xA xP xR cI thr mS mSv (nI q) mBf kLn mTl mAl mPl kBs kLf kAt kWl mRd kRm hsh) → va_S (wr_in (MdW om xS xV xB xT xA xP xR cI thr mS mSv (nI q) mBf kLn mTl mAl mPl kBs kLf kAt kWl mRd kRm hsh)) s.heap H locs → wr_W p l e wsX5_comes ({ frames := 4, cells := 0, slots := 0, locals := 90 } : Room) s m [.ref om, .int x, .int y, .int wd, .int hg, .int wt] below meth c D (MdW om xS xV xB xT xA xP xR cI thr mS mSv (nI q) mBf kLn mTl mAl mPl kBs kLf kAt kWl mRd kRm hsh) (fun v w9 => v = none ∧ ∃ S9 : Nat → Int32, mdS (n + 1) (mIns n P x y wd hg wt) S9 ∧ w9 = MdW om xS xV xB xT xA xP xR cI thr S9 mSv (nI q) mBf kLn mTl mAl mPl kBs kLf kAt kWl mRd kRm hsh) H locs (F0 m 0 ls []) from body _ _ hP hD hS
  clear hP hD hS
  intro H locs hP hD hS
  refine lv_iconst (v := 0) hx hb dX5_comes_0 (by decide) ?_
  refine lv_istore (lv' := [(6, .int 0), (0, .ref om), (1, .int x), (2, .int y), (3, .int wd), (4, .int hg), (5, .int wt)]) hx hb dX5_comes_1 hl (by decide) rfl (fun ls hl => ?_)
  suffices loop3 : ∀ (k3 i : Nat) (S1 : Nat → Int32) (H : Heap) (locs : List Loc) (ls : Array Slot), i ≤ n → n + 1 ≤ i + k3 → (mdS n (mDr P x y i) S1) → va_P D vwCl (MdW om xS xV xB xT xA xP xR cI thr S1 mSv (nI q) mBf kLn mTl mAl mPl kBs kLf kAt kWl mRd kRm hsh) H → va_D (wr_in (MdW om xS xV xB xT xA xP xR cI thr mS mSv (nI q) mBf kLn mTl mAl mPl kBs kLf kAt kWl mRd kRm hsh)) (MdW om xS xV xB xT xA xP xR cI thr S1 mSv (nI q) mBf kLn mTl mAl mPl kBs kLf kAt kWl mRd kRm hsh) → va_S (wr_in (MdW om xS xV xB xT xA xP xR cI thr mS mSv (nI q) mBf kLn mTl mAl mPl kBs kLf kAt kWl mRd kRm hsh)) s.heap H locs → lv_has ls 7 [(0, .ref om), (1, .int x), (2, .int y), (3, .int wd), (4, .int hg), (5, .int wt), (6, .int (nI i))] → wr_W p l e wsX5_comes ({ frames := 4, cells := 0, slots := 0, locals := 90 } : Room) s m [.ref om, .int x, .int y, .int wd, .int hg, .int wt] below meth c D (MdW om xS xV xB xT xA xP xR cI thr mS mSv (nI q) mBf kLn mTl mAl mPl kBs kLf kAt kWl mRd kRm hsh) (fun v w9 => v = none ∧ ∃ S9 : Nat → Int32, mdS (n + 1) (mIns n P x y wd hg wt) S9 ∧ w9 = MdW om xS xV xB xT xA xP xR cI thr S9 mSv (nI q) mBf kLn mTl mAl mPl kBs kLf kAt kWl mRd kRm hsh) H locs (F0 m 3 ls []) from
    loop3 (n + 1) 0 mS H locs ls (by omega) (by omega) (by exact mDr_init hQ) hP hD hS (lv_sub hl [1, 2, 3, 4, 5, 6, 0] rfl)
  intro k3
  induction k3 with
  | zero => intro i S1 H locs ls h1 h2; exact absurd h2 (by omega)
  | succ k3 ih3 =>
    intro i S1 H locs ls hle3 hlt3 inv3 hP hD hS hl
    refine lv_iload hx hb dX5_comes_3 (lv_at hl 6 rfl) ?_
    refine lv_aload_n hx hb dX5_comes_5 rfl (lv_at hl 0 rfl) ?_
    refine va_get (D := D) (ci := 5) (v := .ref xS) (C := RX5) (T := TX5) (N := 16) hx hb hts hinX5 hown hK hP 0 rfl rfl 1 (by decide) hw7 (fun _ h9 => h9) rfl dX5_comes_6 ?_
    refine lv_iconst (v := 0) hx hb dX5_comes_9 (by decide) ?_
    refine rd_ald (q0 := 1) (t0 := 0) (j := 0) (v := nI n) hx hb hK hP rfl rfl (rfl) (by omega) (by decide) (inv3.1) dX5_comes_10 ?_
    refine rd_icmp_ge_n (a := i) (b := n) (tgt := 54) (by omega) (by omega) hx hb dX5_comes_11 (by decide) (fun c_11 => ?_) (fun c_11 => ?_)
    · have c_11n := Nat.not_lt.mpr c_11
      refine lv_iconst (v := 1) hx hb dX5_comes_54 (by decide) ?_
      refine lv_bipush (v := 6) hx hb dX5_comes_55 (by decide) ?_
      refine lv_aload_n hx hb dX5_comes_57 rfl (lv_at hl 0 rfl) ?_
      refine va_get (D := D) (ci := 5) (v := .ref xS) (C := RX5) (T := TX5) (N := 16) hx hb hts hinX5 hown hK hP 0 rfl rfl 1 (by decide) hw7 (fun _ h9 => h9) rfl dX5_comes_58 ?_
      refine lv_iconst (v := 0) hx hb dX5_comes_61 (by decide) ?_
      refine rd_ald (q0 := 1) (t0 := 0) (j := 0) (v := nI n) hx hb hK hP rfl rfl (rfl) (by omega) (by decide) (inv3.1) dX5_comes_62 ?_
      refine lv_imul hx hb dX5_comes_63 ?_
      refine lv_asi (y := nI (6 * n)) (pk_mul 6 n) ?_
      refine lv_iadd hx hb dX5_comes_64 ?_
      refine lv_asi (y := nI (1 + (6 * n))) (nI_add 1 (6 * n)) ?_
      refine lv_istore (lv' := [(6, .int (nI (1 + (6 * n)))), (0, .ref om), (1, .int x), (2, .int y), (3, .int wd), (4, .int hg), (5, .int wt)]) hx hb dX5_comes_65 hl (by decide) rfl (fun ls hl => ?_)
      refine lv_aload_n hx hb dX5_comes_67 rfl (lv_at hl 1 rfl) ?_
      refine va_get (D := D) (ci := 5) (v := .ref xS) (C := RX5) (T := TX5) (N := 16) hx hb hts hinX5 hown hK hP 0 rfl rfl 1 (by decide) hw7 (fun _ h9 => h9) rfl dX5_comes_68 ?_
      refine lv_iload hx hb dX5_comes_71 (lv_at hl 0 rfl) ?_
      refine lv_iconst (v := 0) hx hb dX5_comes_73 (by decide) ?_
      refine lv_iadd hx hb dX5_comes_74 ?_
      refine lv_asi (y := nI ((1 + (6 * n)) + 0)) (nI_add (1 + (6 * n)) 0) ?_
      refine lv_iload_n hx hb dX5_comes_75 rfl (lv_at hl 2 rfl) ?_
      refine wr_ast (q0 := 1) (t0 := 0) (j := (1 + (6 * n)) + 0) hx hb hK hP hD hS rfl rfl (rfl) (by omega) (by decide) dX5_comes_76 (fun H locs hP hD hS => ?_)
      obtain ⟨mS_76, emS_76⟩ : ∃ zz9 : Nat → Int32, zz9 = upd S1 ((1 + (6 * n)) + 0) x := ⟨_, rfl⟩
      rw [← emS_76] at hP hD
      have hP : va_P D vwCl (MdW om xS xV xB xT xA xP xR cI thr mS_76 mSv (nI q) mBf kLn mTl mAl mPl kBs kLf kAt kWl mRd kRm hsh) H := hP
      have hD : va_D (wr_in (MdW om xS xV xB xT xA xP xR cI thr mS mSv (nI q) mBf kLn mTl mAl mPl kBs kLf kAt kWl mRd kRm hsh)) (MdW om xS xV xB xT xA xP xR cI thr mS_76 mSv (nI q) mBf kLn mTl mAl mPl kBs kLf kAt kWl mRd kRm hsh) := hD
      refine lv_aload_n hx hb dX5_comes_77 rfl (lv_at hl 1 rfl) ?_
      refine va_get (D := D) (ci := 5) (v := .ref xS) (C := RX5) (T := TX5) (N := 16) hx hb hts hinX5 hown hK hP 0 rfl rfl 1 (by decide) hw7 (fun _ h9 => h9) rfl dX5_comes_78 ?_
      refine lv_iload hx hb dX5_comes_81 (lv_at hl 0 rfl) ?_
      refine lv_iconst (v := 1) hx hb dX5_comes_83 (by decide) ?_
      refine lv_iadd hx hb dX5_comes_84 ?_
      refine lv_asi (y := nI ((1 + (6 * n)) + 1)) (nI_add (1 + (6 * n)) 1) ?_
      refine lv_iload_n hx hb dX5_comes_85 rfl (lv_at hl 3 rfl) ?_
      refine wr_ast (q0 := 1) (t0 := 0) (j := (1 + (6 * n)) + 1) hx hb hK hP hD hS rfl rfl (rfl) (by omega) (by decide) dX5_comes_86 (fun H locs hP hD hS => ?_)
      obtain ⟨mS_86, emS_86⟩ : ∃ zz9 : Nat → Int32, zz9 = upd mS_76 ((1 + (6 * n)) + 1) y := ⟨_, rfl⟩
      rw [← emS_86] at hP hD
      have hP : va_P D vwCl (MdW om xS xV xB xT xA xP xR cI thr mS_86 mSv (nI q) mBf kLn mTl mAl mPl kBs kLf kAt kWl mRd kRm hsh) H := hP
      have hD : va_D (wr_in (MdW om xS xV xB xT xA xP xR cI thr mS mSv (nI q) mBf kLn mTl mAl mPl kBs kLf kAt kWl mRd kRm hsh)) (MdW om xS xV xB xT xA xP xR cI thr mS_86 mSv (nI q) mBf kLn mTl mAl mPl kBs kLf kAt kWl mRd kRm hsh) := hD
      refine lv_aload_n hx hb dX5_comes_87 rfl (lv_at hl 1 rfl) ?_
      refine va_get (D := D) (ci := 5) (v := .ref xS) (C := RX5) (T := TX5) (N := 16) hx hb hts hinX5 hown hK hP 0 rfl rfl 1 (by decide) hw7 (fun _ h9 => h9) rfl dX5_comes_88 ?_
      refine lv_iload hx hb dX5_comes_91 (lv_at hl 0 rfl) ?_
      refine lv_iconst (v := 2) hx hb dX5_comes_93 (by decide) ?_
      refine lv_iadd hx hb dX5_comes_94 ?_
      refine lv_asi (y := nI ((1 + (6 * n)) + 2)) (nI_add (1 + (6 * n)) 2) ?_
      refine lv_iload_n hx hb dX5_comes_95 rfl (lv_at hl 4 rfl) ?_
      refine wr_ast (q0 := 1) (t0 := 0) (j := (1 + (6 * n)) + 2) hx hb hK hP hD hS rfl rfl (rfl) (by omega) (by decide) dX5_comes_96 (fun H locs hP hD hS => ?_)
      obtain ⟨mS_96, emS_96⟩ : ∃ zz9 : Nat → Int32, zz9 = upd mS_86 ((1 + (6 * n)) + 2) wd := ⟨_, rfl⟩
      rw [← emS_96] at hP hD
      have hP : va_P D vwCl (MdW om xS xV xB xT xA xP xR cI thr mS_96 mSv (nI q) mBf kLn mTl mAl mPl kBs kLf kAt kWl mRd kRm hsh) H := hP
      have hD : va_D (wr_in (MdW om xS xV xB xT xA xP xR cI thr mS mSv (nI q) mBf kLn mTl mAl mPl kBs kLf kAt kWl mRd kRm hsh)) (MdW om xS xV xB xT xA xP xR cI thr mS_96 mSv (nI q) mBf kLn mTl mAl mPl kBs kLf kAt kWl mRd kRm hsh) := hD
      refine lv_aload_n hx hb dX5_comes_97 rfl (lv_at hl 1 rfl) ?_
      refine va_get (D := D) (ci := 5) (v := .ref xS) (C := RX5) (T := TX5) (N := 16) hx hb hts hinX5 hown hK hP 0 rfl rfl 1 (by decide) hw7 (fun _ h9 => h9) rfl dX5_comes_98 ?_
      refine lv_iload hx hb dX5_comes_101 (lv_at hl 0 rfl) ?_
      refine lv_iconst (v := 3) hx hb dX5_comes_103 (by decide) ?_
      refine lv_iadd hx hb dX5_comes_104 ?_
      refine lv_asi (y := nI ((1 + (6 * n)) + 3)) (nI_add (1 + (6 * n)) 3) ?_
      refine lv_iload hx hb dX5_comes_105 (lv_at hl 5 rfl) ?_
      refine wr_ast (q0 := 1) (t0 := 0) (j := (1 + (6 * n)) + 3) hx hb hK hP hD hS rfl rfl (rfl) (by omega) (by decide) dX5_comes_107 (fun H locs hP hD hS => ?_)
      obtain ⟨mS_107, emS_107⟩ : ∃ zz9 : Nat → Int32, zz9 = upd mS_96 ((1 + (6 * n)) + 3) hg := ⟨_, rfl⟩
      rw [← emS_107] at hP hD
      have hP : va_P D vwCl (MdW om xS xV xB xT xA xP xR cI thr mS_107 mSv (nI q) mBf kLn mTl mAl mPl kBs kLf kAt kWl mRd kRm hsh) H := hP
      have hD : va_D (wr_in (MdW om xS xV xB xT xA xP xR cI thr mS mSv (nI q) mBf kLn mTl mAl mPl kBs kLf kAt kWl mRd kRm hsh)) (MdW om xS xV xB xT xA xP xR cI thr mS_107 mSv (nI q) mBf kLn mTl mAl mPl kBs kLf kAt kWl mRd kRm hsh) := hD
      refine lv_aload_n hx hb dX5_comes_108 rfl (lv_at hl 1 rfl) ?_
      refine va_get (D := D) (ci := 5) (v := .ref xS) (C := RX5) (T := TX5) (N := 16) hx hb hts hinX5 hown hK hP 0 rfl rfl 1 (by decide) hw7 (fun _ h9 => h9) rfl dX5_comes_109 ?_
      refine lv_iload hx hb dX5_comes_112 (lv_at hl 0 rfl) ?_
      refine lv_iconst (v := 4) hx hb dX5_comes_114 (by decide) ?_
      refine lv_iadd hx hb dX5_comes_115 ?_
      refine lv_asi (y := nI ((1 + (6 * n)) + 4)) (nI_add (1 + (6 * n)) 4) ?_
      refine lv_iload hx hb dX5_comes_116 (lv_at hl 6 rfl) ?_
      refine wr_ast (q0 := 1) (t0 := 0) (j := (1 + (6 * n)) + 4) hx hb hK hP hD hS rfl rfl (rfl) (by omega) (by decide) dX5_comes_118 (fun H locs hP hD hS => ?_)
      obtain ⟨mS_118, emS_118⟩ : ∃ zz9 : Nat → Int32, zz9 = upd mS_107 ((1 + (6 * n)) + 4) wt := ⟨_, rfl⟩
      rw [← emS_118] at hP hD
      have hP : va_P D vwCl (MdW om xS xV xB xT xA xP xR cI thr mS_118 mSv (nI q) mBf kLn mTl mAl mPl kBs kLf kAt kWl mRd kRm hsh) H := hP
      have hD : va_D (wr_in (MdW om xS xV xB xT xA xP xR cI thr mS mSv (nI q) mBf kLn mTl mAl mPl kBs kLf kAt kWl mRd kRm hsh)) (MdW om xS xV xB xT xA xP xR cI thr mS_118 mSv (nI q) mBf kLn mTl mAl mPl kBs kLf kAt kWl mRd kRm hsh) := hD
      refine lv_aload_n hx hb dX5_comes_119 rfl (lv_at hl 1 rfl) ?_
      refine va_get (D := D) (ci := 5) (v := .ref xS) (C := RX5) (T := TX5) (N := 16) hx hb hts hinX5 hown hK hP 0 rfl rfl 1 (by decide) hw7 (fun _ h9 => h9) rfl dX5_comes_120 ?_
      refine lv_iload hx hb dX5_comes_123 (lv_at hl 0 rfl) ?_
      refine lv_iconst (v := 5) hx hb dX5_comes_125 (by decide) ?_
      refine lv_iadd hx hb dX5_comes_126 ?_
      refine lv_asi (y := nI ((1 + (6 * n)) + 5)) (nI_add (1 + (6 * n)) 5) ?_
      refine lv_iconst (v := 0) hx hb dX5_comes_127 (by decide) ?_
      refine wr_ast (q0 := 1) (t0 := 0) (j := (1 + (6 * n)) + 5) hx hb hK hP hD hS rfl rfl (rfl) (by omega) (by decide) dX5_comes_128 (fun H locs hP hD hS => ?_)
      obtain ⟨mS_128, emS_128⟩ : ∃ zz9 : Nat → Int32, zz9 = upd mS_118 ((1 + (6 * n)) + 5) 0 := ⟨_, rfl⟩
      rw [← emS_128] at hP hD
      have hP : va_P D vwCl (MdW om xS xV xB xT xA xP xR cI thr mS_128 mSv (nI q) mBf kLn mTl mAl mPl kBs kLf kAt kWl mRd kRm hsh) H := hP
      have hD : va_D (wr_in (MdW om xS xV xB xT xA xP xR cI thr mS mSv (nI q) mBf kLn mTl mAl mPl kBs kLf kAt kWl mRd kRm hsh)) (MdW om xS xV xB xT xA xP xR cI thr mS_128 mSv (nI q) mBf kLn mTl mAl mPl kBs kLf kAt kWl mRd kRm hsh) := hD
      refine lv_aload_n hx hb dX5_comes_129 rfl (lv_at hl 1 rfl) ?_
      refine va_get (D := D) (ci := 5) (v := .ref xS) (C := RX5) (T := TX5) (N := 16) hx hb hts hinX5 hown hK hP 0 rfl rfl 1 (by decide) hw7 (fun _ h9 => h9) rfl dX5_comes_130 ?_
      refine lv_iconst (v := 0) hx hb dX5_comes_133 (by decide) ?_
      refine lv_dup2_11 hx hb dX5_comes_134 rfl rfl ?_
      refine rd_ald (q0 := 1) (t0 := 0) (j := 0) (v := nI n) hx hb hK hP rfl rfl (rfl) (by omega) (by decide) (by rw [emS_128, emS_118, emS_107, emS_96, emS_86, emS_76]; exact mIns_n inv3) dX5_comes_135 ?_
      refine lv_iconst (v := 1) hx hb dX5_comes_136 (by decide) ?_
      refine lv_iadd hx hb dX5_comes_137 ?_
      refine lv_asi (y := nI (n + 1)) (nI_add n 1) ?_
      refine wr_ast (q0 := 1) (t0 := 0) (j := 0) hx hb hK hP hD hS rfl rfl (rfl) (by omega) (by decide) dX5_comes_138 (fun H locs hP hD hS => ?_)
      obtain ⟨mS_138, emS_138⟩ : ∃ zz9 : Nat → Int32, zz9 = upd mS_128 0 (nI (n + 1)) := ⟨_, rfl⟩
      rw [← emS_138] at hP hD
      have hP : va_P D vwCl (MdW om xS xV xB xT xA xP xR cI thr mS_138 mSv (nI q) mBf kLn mTl mAl mPl kBs kLf kAt kWl mRd kRm hsh) H := hP
      have hD : va_D (wr_in (MdW om xS xV xB xT xA xP xR cI thr mS mSv (nI q) mBf kLn mTl mAl mPl kBs kLf kAt kWl mRd kRm hsh)) (MdW om xS xV xB xT xA xP xR cI thr mS_138 mSv (nI q) mBf kLn mTl mAl mPl kBs kLf kAt kWl mRd kRm hsh) := hD
      exact wr_vret hx hb hr hlocks hP hS rfl dX5_comes_139 (by refine ⟨rfl, _, ?_, rfl⟩; rw [emS_138, emS_128, emS_118, emS_107, emS_96, emS_86, emS_76]; exact mIns_ok hn8 c_11 hle3 inv3)
    · have c_11n := Nat.not_le.mpr c_11
      refine lv_aload_n hx hb dX5_comes_14 rfl (lv_at hl 0 rfl) ?_
      refine lv_iload hx hb dX5_comes_15 (lv_at hl 6 rfl) ?_
      have hmd : md_in (MdW om xS xV xB xT xA xP xR cI thr S1 mSv (nI q) mBf kLn mTl mAl mPl kBs kLf kAt kWl mRd kRm hsh) [(cI, .int)] om n (mDr P x y i) := ⟨0, 1, 0, xS, cI, S1, _, rfl, rfl, rfl, rfl, (Nat.le_of_lt hn8), inv3.1, inv3.2, (bd_ok_dr hbk)⟩
      refine rd_callV (As := [.int (nI i)]) (rest := []) ⟨hx, hb, hml, hown, hts⟩ (c_X5_cornerOf l D hmd c_11) (cwV 1 hts gX5_comes_X5_cornerOf rfl rfl rfl (by decide +kernel) ⟨by decide, by decide⟩) hK hN hP (q0 := 0) rfl rfl rfl hl.1 rfl (Nat.le_of_ble_eq_true rfl) ⟨by decide, by decide⟩ dX5_comes_17 ?_
      refine lv_iconst (v := (-1)) hx hb dX5_comes_20 (by decide) ?_
      refine lv_icmp_eq (tgt := 48) hx hb dX5_comes_21 (by decide) (fun c_21 => ?_) (fun c_21 => ?_)
      · refine lv_iinc (v := nI (i + 1)) (lv' := [(6, .int (nI (i + 1))), (0, .ref om), (1, .int x), (2, .int y), (3, .int wd), (4, .int hg), (5, .int wt)]) hx hb dX5_comes_48 hl (k := 6) rfl (nI_add i 1) (by decide) rfl (fun ls hl => ?_)
        refine lv_goto (tgt := 3) hx hb dX5_comes_51 (by decide) ?_
        exact ih3 (i + 1) S1 H locs ls (by omega) (by omega) (by exact mDr_step_n c_11 inv3 c_21) hP hD hS (lv_sub hl [1, 2, 3, 4, 5, 6, 0] rfl)
      · refine lv_aload_n hx hb dX5_comes_24 rfl (lv_at hl 0 rfl) ?_
        refine lv_iload hx hb dX5_comes_25 (lv_at hl 6 rfl) ?_
        refine lv_aload_n hx hb dX5_comes_27 rfl (lv_at hl 0 rfl) ?_
        refine lv_iload hx hb dX5_comes_28 (lv_at hl 6 rfl) ?_
        have hmd : md_in (MdW om xS xV xB xT xA xP xR cI thr S1 mSv (nI q) mBf kLn mTl mAl mPl kBs kLf kAt kWl mRd kRm hsh) [(cI, .int)] om n (mDr P x y i) := ⟨0, 1, 0, xS, cI, S1, _, rfl, rfl, rfl, rfl, (Nat.le_of_lt hn8), inv3.1, inv3.2, (bd_ok_dr hbk)⟩
        refine rd_callV (As := [.int (nI i)]) (rest := [.int (nI i), .ref om]) ⟨hx, hb, hml, hown, hts⟩ (c_X5_cornerOf l D hmd c_11) (cwV 1 hts gX5_comes_X5_cornerOf rfl rfl rfl (by decide +kernel) ⟨by decide, by decide⟩) hK hN hP (q0 := 0) rfl rfl rfl hl.1 rfl (Nat.le_of_ble_eq_true rfl) ⟨by decide, by decide⟩ dX5_comes_30 ?_
        refine lv_iload_n hx hb dX5_comes_33 rfl (lv_at hl 1 rfl) ?_
        refine lv_iload_n hx hb dX5_comes_34 rfl (lv_at hl 2 rfl) ?_
        have hmd : md_in (MdW om xS xV xB xT xA xP xR cI thr S1 mSv (nI q) mBf kLn mTl mAl mPl kBs kLf kAt kWl mRd kRm hsh) [(cI, .int)] om n (mDr P x y i) := ⟨0, 1, 0, xS, cI, S1, _, rfl, rfl, rfl, rfl, (Nat.le_of_lt hn8), inv3.1, inv3.2, (bd_ok_dr hbk)⟩
        refine rd_callV (As := [.int (nI i), .int ((mDr P x y i) i 5), .int x, .int y]) (rest := []) ⟨hx, hb, hml, hown, hts⟩ (c_X5_has l D hmd c_11 (bd_ok4 (bd_ok_dr hbk) c_11 c_21) x y) (cwV 4 hts gX5_comes_X5_has rfl rfl rfl (by decide +kernel) ⟨by decide, by decide⟩) hK hN hP (q0 := 0) rfl rfl rfl hl.1 rfl (Nat.le_of_ble_eq_true rfl) ⟨by decide, by decide⟩ dX5_comes_35 ?_
        refine rd_ifeq_b (tgt := 48) hx hb dX5_comes_38 (by decide) (fun c_38 => ?_) (fun c_38 => ?_)
        · refine lv_iinc (v := nI (i + 1)) (lv' := [(6, .int (nI (i + 1))), (0, .ref om), (1, .int x), (2, .int y), (3, .int wd), (4, .int hg), (5, .int wt)]) hx hb dX5_comes_48 hl (k := 6) rfl (nI_add i 1) (by decide) rfl (fun ls hl => ?_)
          refine lv_goto (tgt := 3) hx hb dX5_comes_51 (by decide) ?_
          exact ih3 (i + 1) S1 H locs ls (by omega) (by omega) (by exact mDr_step_c c_11 inv3 hbk c_21 c_38) hP hD hS (lv_sub hl [1, 2, 3, 4, 5, 6, 0] rfl)
        · refine lv_aload_n hx hb dX5_comes_41 rfl (lv_at hl 0 rfl) ?_
          refine lv_iload hx hb dX5_comes_42 (lv_at hl 6 rfl) ?_
          refine lv_iconst (v := (-1)) hx hb dX5_comes_44 (by decide) ?_
          refine wr_callV (As := [.int (nI i), .int (-1)]) (rest := []) ⟨hx, hb, hml, hown, hts⟩ (c_X5_stands l D (i := i) (by omega) (-1)) (cwV 2 hts gX5_comes_X5_stands rfl rfl rfl (by decide +kernel) ⟨by decide, by decide⟩) hK hN hZ hP hD hS [0, 1, 2, 3, 4, 5, 6, 7] [0] rfl (by decide) rfl (q0 := 0) rfl rfl rfl hl.1 rfl (Nat.le_of_ble_eq_true rfl) ⟨by decide, by decide⟩ dX5_comes_45 (fun v9 w9 H locs hp9 hP hD hS => ?_)
          obtain ⟨rfl, rfl⟩ := hp9
          obtain ⟨mS_45, emS_45⟩ : ∃ zz9 : Nat → Int32, zz9 = upd S1 (1 + 6 * i + 5) ((-1) + 1) := ⟨_, rfl⟩
          rw [← emS_45] at hP hD
          have hP : va_P D vwCl (MdW om xS xV xB xT xA xP xR cI thr mS_45 mSv (nI q) mBf kLn mTl mAl mPl kBs kLf kAt kWl mRd kRm hsh) H := hP
          have hD : va_D (wr_in (MdW om xS xV xB xT xA xP xR cI thr mS mSv (nI q) mBf kLn mTl mAl mPl kBs kLf kAt kWl mRd kRm hsh)) (MdW om xS xV xB xT xA xP xR cI thr mS_45 mSv (nI q) mBf kLn mTl mAl mPl kBs kLf kAt kWl mRd kRm hsh) := hD
          refine W.eq (g2 := F0 m 48 ls []) rfl ?_
          refine lv_iinc (v := nI (i + 1)) (lv' := [(6, .int (nI (i + 1))), (0, .ref om), (1, .int x), (2, .int y), (3, .int wd), (4, .int hg), (5, .int wt)]) hx hb dX5_comes_48 hl (k := 6) rfl (nI_add i 1) (by decide) rfl (fun ls hl => ?_)
          refine lv_goto (tgt := 3) hx hb dX5_comes_51 (by decide) ?_
          exact ih3 (i + 1) mS_45 H locs ls (by omega) (by omega) (by exact mDr_step_t c_11 (by omega) inv3 emS_45 c_21 c_38) hP hD hS (lv_sub hl [1, 2, 3, 4, 5, 6, 0] rfl)
set_option maxHeartbeats 4000000 in
set_option maxRecDepth 100000 in
theorem c_X5_add (l : Launch) (D : va_G) {om xS xV xB xT xA xP xR : Nat} {cI : ClassId} {thr kLn kBs kLf kAt kWl kRm : Int32} {hsh : Int64} {mS mSv mBf mTl mAl mPl mRd : Nat → Int32} {n : Nat} {P : Nat → Nat → Int32} {q : Nat} (hq6 : q ≤ 6) (hn8 : n ≤ 8) (hQ : mdS n P mS) (hbk : bd_ok n P) (x y wd hg wt : Int32) : wr_M l yX5_add wsX5_add ({ frames := 5, cells := 0, slots := 0, locals := 116 } : Room) D (MdW om xS xV xB xT xA xP xR cI thr mS mSv (nI q) mBf kLn mTl mAl mPl kBs kLf kAt kWl mRd kRm hsh) [(cI, .int)] [.ref om, .int x, .int y, .int wd, .int hg, .int wt] (fun v w9 => (¬ mRef n P x y wd hg wt = 0 ∧ v = some (.int 0) ∧ w9 = MdW om xS xV xB xT xA xP xR cI (mRef n P x y wd hg wt) mS mSv (nI q) mBf kLn mTl mAl mPl kBs kLf kAt kWl mRd kRm hsh) ∨ (mRef n P x y wd hg wt = 0 ∧ v = some (.int (nI n)) ∧ ∃ S9 : Nat → Int32, mdS (n + 1) (mIns n P x y wd hg wt) S9 ∧ w9 = MdW om xS xV xB xT xA xP xR cI 0 S9 (svF q mSv mS) (nI ((if q < 6 then q else 5) + 1)) mBf kLn mTl mAl mPl kBs kLf kAt kWl mRd kRm hsh)) := by
  refine wr_of (cc := cX5_add) (maxL := 6) (ret := some .int) (by decide) rfl (Nat.le_of_ble_eq_true rfl) ?_
  intro p e s m below meth c hx hb hr hml hts hown hlocks hP hK hN hZ hD hS ls hl
  have hown : s.vm.findClass RX5 = some m.cls := hown
  have hl : lv_has ls 6 [(0, .ref om), (1, .int x), (2, .int y), (3, .int wd), (4, .int hg), (5, .int wt)] := hl
  have hinX5 : ∀ w ∈ u_ws RX5 TX5 16, w ∈ wsX5_add := by decide +kernel
  have hw31 := hts (.fieldLink RX5 31 "CornerLabelsModel" "thrown" "I") (by decide +kernel)
  have hw7 := hts (.fieldLink RX5 7 "CornerLabelsModel" "s" "[I") (by decide +kernel)
  suffices body : ∀ (H : Heap) (locs : List Loc), va_P D vwCl (MdW om xS xV xB xT xA xP xR cI thr mS mSv (nI q) mBf kLn mTl mAl mPl kBs kLf kAt kWl mRd kRm hsh) H → va_D (wr_in (MdW om xS xV xB xT xA xP xR cI thr mS mSv (nI q) mBf kLn mTl mAl mPl kBs kLf kAt kWl mRd kRm hsh)) (MdW om xS xV xB xT xA xP xR cI thr mS mSv (nI q) mBf kLn mTl mAl mPl kBs kLf kAt kWl mRd kRm hsh) → va_S (wr_in (MdW om xS xV xB xT xA xP xR cI thr mS mSv (nI q) mBf kLn mTl mAl mPl kBs kLf kAt kWl mRd kRm hsh)) s.heap H locs → wr_W p l e wsX5_add ({ frames := 5, cells := 0, slots := 0, locals := 116 } : Room) s m [.ref om, .int x, .int y, .int wd, .int hg, .int wt] below meth c D (MdW om xS xV xB xT xA xP xR cI thr mS mSv (nI q) mBf kLn mTl mAl mPl kBs kLf kAt kWl mRd kRm hsh) (fun v w9 => (¬ mRef n P x y wd hg wt = 0 ∧ v = some (.int 0) ∧ w9 = MdW om xS xV xB xT xA xP xR cI (mRef n P x y wd hg wt) mS mSv (nI q) mBf kLn mTl mAl mPl kBs kLf kAt kWl mRd kRm hsh) ∨ (mRef n P x y wd hg wt = 0 ∧ v = some (.int (nI n)) ∧ ∃ S9 : Nat → Int32, mdS (n + 1) (mIns n P x y wd hg wt) S9 ∧ w9 = MdW om xS xV xB xT xA xP xR cI 0 S9 (svF q mSv mS) (nI ((if q < 6 then q else 5) + 1)) mBf kLn mTl mAl mPl kBs kLf kAt kWl mRd kRm hsh)) H locs (F0 m 0 ls []) from body _ _ hP hD hS
  clear hP hD hS
  intro H locs hP hD hS
  refine lv_aload_n hx hb dX5_add_0 rfl (lv_at hl 0 rfl) ?_
  refine lv_aload_n hx hb dX5_add_1 rfl (lv_at hl 0 rfl) ?_
  refine lv_iload_n hx hb dX5_add_2 rfl (lv_at hl 1 rfl) ?_
  refine lv_iload_n hx hb dX5_add_3 rfl (lv_at hl 2 rfl) ?_
  refine lv_iload_n hx hb dX5_add_4 rfl (lv_at hl 3 rfl) ?_
  refine lv_iload hx hb dX5_add_5 (lv_at hl 4 rfl) ?_
  refine lv_iload hx hb dX5_add_7 (lv_at hl 5 rfl) ?_
  have hmd : md_in (MdW om xS xV xB xT xA xP xR cI thr mS mSv (nI q) mBf kLn mTl mAl mPl kBs kLf kAt kWl mRd kRm hsh) [(cI, .int)] om n P := ⟨0, 1, 0, xS, cI, mS, _, rfl, rfl, rfl, rfl, hn8, hQ.1, hQ.2, hbk⟩
  refine rd_callV (As := [.int x, .int y, .int wd, .int hg, .int wt]) (rest := [.ref om]) ⟨hx, hb, hml, hown, hts⟩ (c_X5_refusesAdd l D hmd x y wd hg wt) (cwV 5 hts gX5_add_X5_refusesAdd rfl rfl rfl (by decide +kernel) ⟨by decide, by decide⟩) hK hN hP (q0 := 0) rfl rfl rfl hl.1 rfl (Nat.le_of_ble_eq_true rfl) ⟨by decide, by decide⟩ dX5_add_9 ?_
  refine va_put (D := D) (ci := 5) (v := .int (mRef n P x y wd hg wt)) (ty := .int) (C := RX5) (T := TX5) (N := 16) hx hb hts hinX5 tyX5 tyX5_ok nmX5 hown hK hP hD hS 0 rfl rfl 0 (by decide) hw31 (fun _ h9 => h9) rfl (by decide +kernel) rfl rfl (Nat.le_of_ble_eq_true rfl) dX5_add_12 (fun H locs hP hD hS => ?_)
  have hP : va_P D vwCl (MdW om xS xV xB xT xA xP xR cI (mRef n P x y wd hg wt) mS mSv (nI q) mBf kLn mTl mAl mPl kBs kLf kAt kWl mRd kRm hsh) H := hP
  have hD : va_D (wr_in (MdW om xS xV xB xT xA xP xR cI thr mS mSv (nI q) mBf kLn mTl mAl mPl kBs kLf kAt kWl mRd kRm hsh)) (MdW om xS xV xB xT xA xP xR cI (mRef n P x y wd hg wt) mS mSv (nI q) mBf kLn mTl mAl mPl kBs kLf kAt kWl mRd kRm hsh) := hD
  refine lv_aload_n hx hb dX5_add_15 rfl (lv_at hl 0 rfl) ?_
  refine va_get (D := D) (ci := 5) (v := .int (mRef n P x y wd hg wt)) (C := RX5) (T := TX5) (N := 16) hx hb hts hinX5 hown hK hP 0 rfl rfl 0 (by decide) hw31 (fun _ h9 => h9) rfl dX5_add_16 ?_
  refine lv_if_eq (tgt := 24) hx hb dX5_add_19 (by decide) (fun c_19 => ?_) (fun c_19 => ?_)
  · refine lv_aload_n hx hb dX5_add_24 rfl (lv_at hl 0 rfl) ?_
    refine wr_callV (As := []) (rest := []) ⟨hx, hb, hml, hown, hts⟩ (c_X5_saves l D (q := q) hq6) (cwV 0 hts gX5_add_X5_saves rfl rfl rfl (by decide +kernel) ⟨by decide, by decide⟩) hK hN hZ hP hD hS [0, 1, 2, 3, 4, 5, 6, 7] [0] rfl (by decide) rfl (q0 := 0) rfl rfl rfl hl.1 rfl (Nat.le_of_ble_eq_true rfl) ⟨by decide, by decide⟩ dX5_add_25 (fun v9 w9 H locs hp9 hP hD hS => ?_)
    obtain ⟨rfl, rfl⟩ := hp9
    have hP : va_P D vwCl (MdW om xS xV xB xT xA xP xR cI (mRef n P x y wd hg wt) mS (svF q mSv mS) (nI ((if q < 6 then q else 5) + 1)) mBf kLn mTl mAl mPl kBs kLf kAt kWl mRd kRm hsh) H := hP
    have hD : va_D (wr_in (MdW om xS xV xB xT xA xP xR cI thr mS mSv (nI q) mBf kLn mTl mAl mPl kBs kLf kAt kWl mRd kRm hsh)) (MdW om xS xV xB xT xA xP xR cI (mRef n P x y wd hg wt) mS (svF q mSv mS) (nI ((if q < 6 then q else 5) + 1)) mBf kLn mTl mAl mPl kBs kLf kAt kWl mRd kRm hsh) := hD
    refine W.eq (g2 := F0 m 28 ls []) rfl ?_
    refine lv_aload_n hx hb dX5_add_28 rfl (lv_at hl 0 rfl) ?_
    refine lv_iload_n hx hb dX5_add_29 rfl (lv_at hl 1 rfl) ?_
    refine lv_iload_n hx hb dX5_add_30 rfl (lv_at hl 2 rfl) ?_
    refine lv_iload_n hx hb dX5_add_31 rfl (lv_at hl 3 rfl) ?_
    refine lv_iload hx hb dX5_add_32 (lv_at hl 4 rfl) ?_
    refine lv_iload hx hb dX5_add_34 (lv_at hl 5 rfl) ?_
    refine wr_callV (As := [.int x, .int y, .int wd, .int hg, .int wt]) (rest := []) ⟨hx, hb, hml, hown, hts⟩ (c_X5_comes l D (q := (if q < 6 then q else 5) + 1) (by split <;> omega) (mRef_lt hn8 c_19) hQ hbk x y wd hg wt) (cwV 5 hts gX5_add_X5_comes rfl rfl rfl (by decide +kernel) ⟨by decide, by decide⟩) hK hN hZ hP hD hS [0, 1, 2, 3, 4, 5, 6, 7] [0] rfl (by decide) rfl (q0 := 0) rfl rfl rfl hl.1 rfl (Nat.le_of_ble_eq_true rfl) ⟨by decide, by decide⟩ dX5_add_36 (fun v9 w9 H locs hp9 hP hD hS => ?_)
    obtain ⟨rfl, S9, hS9, rfl⟩ := hp9
    have hP : va_P D vwCl (MdW om xS xV xB xT xA xP xR cI (mRef n P x y wd hg wt) S9 (svF q mSv mS) (nI ((if q < 6 then q else 5) + 1)) mBf kLn mTl mAl mPl kBs kLf kAt kWl mRd kRm hsh) H := hP
    have hD : va_D (wr_in (MdW om xS xV xB xT xA xP xR cI thr mS mSv (nI q) mBf kLn mTl mAl mPl kBs kLf kAt kWl mRd kRm hsh)) (MdW om xS xV xB xT xA xP xR cI (mRef n P x y wd hg wt) S9 (svF q mSv mS) (nI ((if q < 6 then q else 5) + 1)) mBf kLn mTl mAl mPl kBs kLf kAt kWl mRd kRm hsh) := hD
    refine W.eq (g2 := F0 m 39 ls []) rfl ?_
    refine lv_aload_n hx hb dX5_add_39 rfl (lv_at hl 0 rfl) ?_
    refine va_get (D := D) (ci := 5) (v := .ref xS) (C := RX5) (T := TX5) (N := 16) hx hb hts hinX5 hown hK hP 0 rfl rfl 1 (by decide) hw7 (fun _ h9 => h9) rfl dX5_add_40 ?_
    refine lv_iconst (v := 0) hx hb dX5_add_43 (by decide) ?_
    refine rd_ald (q0 := 1) (t0 := 0) (j := 0) (v := nI (n + 1)) hx hb hK hP rfl rfl (rfl) (by omega) (by decide) (hS9.1) dX5_add_44 ?_
    refine lv_iconst (v := 1) hx hb dX5_add_45 (by decide) ?_
    refine lv_isub hx hb dX5_add_46 ?_
    refine lv_asi (y := nI n) (nI_pred n) ?_
    exact wr_iret hx hb hr hlocks hP hS rfl dX5_add_47 (by exact Or.inr ⟨c_19, rfl, S9, hS9, by rw [c_19]⟩)
  · refine lv_iconst (v := 0) hx hb dX5_add_22 (by decide) ?_
    exact wr_iret hx hb hr hlocks hP hS rfl dX5_add_23 (by exact Or.inl ⟨c_19, rfl, rfl⟩)
set_option maxHeartbeats 4000000 in
set_option maxRecDepth 100000 in
theorem c_X5_remove (l : Launch) (D : va_G) {om xS xV xB xT xA xP xR : Nat} {cI : ClassId} {thr kLn kBs kLf kAt kWl kRm : Int32} {hsh : Int64} {mS mSv mBf mTl mAl mPl mRd : Nat → Int32} {n : Nat} {P : Nat → Nat → Int32} {q : Nat} (hq6 : q ≤ 6) (hn8 : n ≤ 8) (hQ : mdS n P mS) (hbk : bd_ok n P) (x : Int32) : wr_M l yX5_remove wsX5_remove ({ frames := 7, cells := 0, slots := 0, locals := 160 } : Room) D (MdW om xS xV xB xT xA xP xR cI thr mS mSv (nI q) mBf kLn mTl mAl mPl kBs kLf kAt kWl mRd kRm hsh) [(cI, .int)] [.ref om, .int x] (fun v w9 => (gHas n x = false ∧ v = some (.int 0) ∧ w9 = MdW om xS xV xB xT xA xP xR cI 1 mS mSv (nI q) mBf kLn mTl mAl mPl kBs kLf kAt kWl mRd kRm hsh) ∨ (∃ i mm, i < n ∧ n = mm + 1 ∧ x = nI i ∧ v = some (.int (mOM mm (gOut P i) (-1) - mOM n P (nI i))) ∧ ∃ S9 : Nat → Int32, mdS mm (gOut P i) S9 ∧ w9 = MdW om xS xV xB xT xA xP xR cI 0 S9 (svF q mSv mS) (nI ((if q < 6 then q else 5) + 1)) mBf kLn mTl mAl mPl kBs kLf kAt kWl mRd kRm hsh)) := by
  refine wr_of (cc := cX5_remove) (maxL := 4) (ret := some .int) (by decide) rfl (Nat.le_of_ble_eq_true rfl) ?_
  intro p e s m below meth c hx hb hr hml hts hown hlocks hP hK hN hZ hD hS ls hl
  have hown : s.vm.findClass RX5 = some m.cls := hown
  have hl : lv_has ls 4 [(0, .ref om), (1, .int x)] := hl
  have hinX5 : ∀ w ∈ u_ws RX5 TX5 16, w ∈ wsX5_remove := by decide +kernel
  have hw31 := hts (.fieldLink RX5 31 "CornerLabelsModel" "thrown" "I") (by decide +kernel)
  have hw7 := hts (.fieldLink RX5 7 "CornerLabelsModel" "s" "[I") (by decide +kernel)
  suffices body : ∀ (H : Heap) (locs : List Loc), va_P D vwCl (MdW om xS xV xB xT xA xP xR cI thr mS mSv (nI q) mBf kLn mTl mAl mPl kBs kLf kAt kWl mRd kRm hsh) H → va_D (wr_in (MdW om xS xV xB xT xA xP xR cI thr mS mSv (nI q) mBf kLn mTl mAl mPl kBs kLf kAt kWl mRd kRm hsh)) (MdW om xS xV xB xT xA xP xR cI thr mS mSv (nI q) mBf kLn mTl mAl mPl kBs kLf kAt kWl mRd kRm hsh) → va_S (wr_in (MdW om xS xV xB xT xA xP xR cI thr mS mSv (nI q) mBf kLn mTl mAl mPl kBs kLf kAt kWl mRd kRm hsh)) s.heap H locs → wr_W p l e wsX5_remove ({ frames := 7, cells := 0, slots := 0, locals := 160 } : Room) s m [.ref om, .int x] below meth c D (MdW om xS xV xB xT xA xP xR cI thr mS mSv (nI q) mBf kLn mTl mAl mPl kBs kLf kAt kWl mRd kRm hsh) (fun v w9 => (gHas n x = false ∧ v = some (.int 0) ∧ w9 = MdW om xS xV xB xT xA xP xR cI 1 mS mSv (nI q) mBf kLn mTl mAl mPl kBs kLf kAt kWl mRd kRm hsh) ∨ (∃ i mm, i < n ∧ n = mm + 1 ∧ x = nI i ∧ v = some (.int (mOM mm (gOut P i) (-1) - mOM n P (nI i))) ∧ ∃ S9 : Nat → Int32, mdS mm (gOut P i) S9 ∧ w9 = MdW om xS xV xB xT xA xP xR cI 0 S9 (svF q mSv mS) (nI ((if q < 6 then q else 5) + 1)) mBf kLn mTl mAl mPl kBs kLf kAt kWl mRd kRm hsh)) H locs (F0 m 0 ls []) from body _ _ hP hD hS
  clear hP hD hS
  intro H locs hP hD hS
  refine lv_aload_n hx hb dX5_remove_0 rfl (lv_at hl 0 rfl) ?_
  refine lv_iconst (v := 0) hx hb dX5_remove_1 (by decide) ?_
  refine va_put (D := D) (ci := 5) (v := .int 0) (ty := .int) (C := RX5) (T := TX5) (N := 16) hx hb hts hinX5 tyX5 tyX5_ok nmX5 hown hK hP hD hS 0 rfl rfl 0 (by decide) hw31 (fun _ h9 => h9) rfl (by decide +kernel) rfl rfl (Nat.le_of_ble_eq_true rfl) dX5_remove_2 (fun H locs hP hD hS => ?_)
  have hP : va_P D vwCl (MdW om xS xV xB xT xA xP xR cI 0 mS mSv (nI q) mBf kLn mTl mAl mPl kBs kLf kAt kWl mRd kRm hsh) H := hP
  have hD : va_D (wr_in (MdW om xS xV xB xT xA xP xR cI thr mS mSv (nI q) mBf kLn mTl mAl mPl kBs kLf kAt kWl mRd kRm hsh)) (MdW om xS xV xB xT xA xP xR cI 0 mS mSv (nI q) mBf kLn mTl mAl mPl kBs kLf kAt kWl mRd kRm hsh) := hD
  refine lv_aload_n hx hb dX5_remove_5 rfl (lv_at hl 0 rfl) ?_
  refine lv_iload_n hx hb dX5_remove_6 rfl (lv_at hl 1 rfl) ?_
  have hmd : md_in (MdW om xS xV xB xT xA xP xR cI 0 mS mSv (nI q) mBf kLn mTl mAl mPl kBs kLf kAt kWl mRd kRm hsh) [(cI, .int)] om n P := ⟨0, 1, 0, xS, cI, mS, _, rfl, rfl, rfl, rfl, hn8, hQ.1, hQ.2, hbk⟩
  refine rd_callV (As := [.int x]) (rest := []) ⟨hx, hb, hml, hown, hts⟩ (c_X5_isPoint l D hmd x) (cwV 1 hts gX5_remove_X5_isPoint rfl rfl rfl (by decide +kernel) ⟨by decide, by decide⟩) hK hN hP (q0 := 0) rfl rfl rfl hl.1 rfl (Nat.le_of_ble_eq_true rfl) ⟨by decide, by decide⟩ dX5_remove_7 ?_
  refine rd_ifne_b (tgt := 19) hx hb dX5_remove_10 (by decide) (fun c_10 => ?_) (fun c_10 => ?_)
  · obtain ⟨i, hi, ei⟩ := (gHas_iff hn8).mp c_10
    rw [ei] at hl
    have hl : lv_has ls 4 [(0, .ref om), (1, .int (nI i))] := hl
    obtain ⟨mm, en⟩ : ∃ mm, n = mm + 1 := ⟨n - 1, by omega⟩
    refine lv_aload_n hx hb dX5_remove_19 rfl (lv_at hl 0 rfl) ?_
    refine wr_callV (As := []) (rest := []) ⟨hx, hb, hml, hown, hts⟩ (c_X5_saves l D (q := q) hq6) (cwV 0 hts gX5_remove_X5_saves rfl rfl rfl (by decide +kernel) ⟨by decide, by decide⟩) hK hN hZ hP hD hS [0, 1, 2, 3, 4, 5, 6, 7] [0] rfl (by decide) rfl (q0 := 0) rfl rfl rfl hl.1 rfl (Nat.le_of_ble_eq_true rfl) ⟨by decide, by decide⟩ dX5_remove_20 (fun v9 w9 H locs hp9 hP hD hS => ?_)
    obtain ⟨rfl, rfl⟩ := hp9
    have hP : va_P D vwCl (MdW om xS xV xB xT xA xP xR cI 0 mS (svF q mSv mS) (nI ((if q < 6 then q else 5) + 1)) mBf kLn mTl mAl mPl kBs kLf kAt kWl mRd kRm hsh) H := hP
    have hD : va_D (wr_in (MdW om xS xV xB xT xA xP xR cI thr mS mSv (nI q) mBf kLn mTl mAl mPl kBs kLf kAt kWl mRd kRm hsh)) (MdW om xS xV xB xT xA xP xR cI 0 mS (svF q mSv mS) (nI ((if q < 6 then q else 5) + 1)) mBf kLn mTl mAl mPl kBs kLf kAt kWl mRd kRm hsh) := hD
    refine W.eq (g2 := F0 m 23 ls []) rfl ?_
    refine lv_aload_n hx hb dX5_remove_23 rfl (lv_at hl 0 rfl) ?_
    refine lv_iload_n hx hb dX5_remove_24 rfl (lv_at hl 1 rfl) ?_
    have hmd : md_in (MdW om xS xV xB xT xA xP xR cI 0 mS (svF q mSv mS) (nI ((if q < 6 then q else 5) + 1)) mBf kLn mTl mAl mPl kBs kLf kAt kWl mRd kRm hsh) [(cI, .int)] om n P := ⟨0, 1, 0, xS, cI, mS, _, rfl, rfl, rfl, rfl, hn8, hQ.1, hQ.2, hbk⟩
    refine rd_callV (As := [.int (nI i)]) (rest := []) ⟨hx, hb, hml, hown, hts⟩ (c_X5_openMany l D hmd (nI i)) (cwV 1 hts gX5_remove_X5_openMany rfl rfl rfl (by decide +kernel) ⟨by decide, by decide⟩) hK hN hP (q0 := 0) rfl rfl rfl hl.1 rfl (Nat.le_of_ble_eq_true rfl) ⟨by decide, by decide⟩ dX5_remove_25 ?_
    refine lv_istore_n (lv' := [(2, .int (mOM n P (nI i))), (0, .ref om), (1, .int (nI i))]) hx hb dX5_remove_28 rfl hl (by decide) rfl (fun ls hl => ?_)
    refine lv_aload_n hx hb dX5_remove_29 rfl (lv_at hl 1 rfl) ?_
    refine va_get (D := D) (ci := 5) (v := .ref xS) (C := RX5) (T := TX5) (N := 16) hx hb hts hinX5 hown hK hP 0 rfl rfl 1 (by decide) hw7 (fun _ h9 => h9) rfl dX5_remove_30 ?_
    refine lv_iconst (v := 0) hx hb dX5_remove_33 (by decide) ?_
    refine lv_dup2_11 hx hb dX5_remove_34 rfl rfl ?_
    refine rd_ald (q0 := 1) (t0 := 0) (j := 0) (v := nI (mm + 1)) hx hb hK hP rfl rfl (rfl) (by omega) (by decide) (by rw [hQ.1, en]) dX5_remove_35 ?_
    refine lv_iconst (v := 1) hx hb dX5_remove_36 (by decide) ?_
    refine lv_isub hx hb dX5_remove_37 ?_
    refine lv_asi (y := nI mm) (nI_pred mm) ?_
    refine wr_ast (q0 := 1) (t0 := 0) (j := 0) hx hb hK hP hD hS rfl rfl (rfl) (by omega) (by decide) dX5_remove_38 (fun H locs hP hD hS => ?_)
    obtain ⟨mS_38, emS_38⟩ : ∃ zz9 : Nat → Int32, zz9 = upd mS 0 (nI mm) := ⟨_, rfl⟩
    rw [← emS_38] at hP hD
    have hP : va_P D vwCl (MdW om xS xV xB xT xA xP xR cI 0 mS_38 (svF q mSv mS) (nI ((if q < 6 then q else 5) + 1)) mBf kLn mTl mAl mPl kBs kLf kAt kWl mRd kRm hsh) H := hP
    have hD : va_D (wr_in (MdW om xS xV xB xT xA xP xR cI thr mS mSv (nI q) mBf kLn mTl mAl mPl kBs kLf kAt kWl mRd kRm hsh)) (MdW om xS xV xB xT xA xP xR cI 0 mS_38 (svF q mSv mS) (nI ((if q < 6 then q else 5) + 1)) mBf kLn mTl mAl mPl kBs kLf kAt kWl mRd kRm hsh) := hD
    refine lv_bipush (v := 6) hx hb dX5_remove_39 (by decide) ?_
    refine lv_iload_n hx hb dX5_remove_41 rfl (lv_at hl 2 rfl) ?_
    refine lv_imul hx hb dX5_remove_42 ?_
    refine lv_asi (y := nI (6 * i)) (pk_mul 6 i) ?_
    refine lv_istore_n (lv' := [(3, .int (nI (6 * i))), (2, .int (mOM n P (nI i))), (0, .ref om), (1, .int (nI i))]) hx hb dX5_remove_43 rfl hl (by decide) rfl (fun ls hl => ?_)
    suffices loop44 : ∀ (k44 e0 : Nat) (S1 : Nat → Int32) (H : Heap) (locs : List Loc) (ls : Array Slot), e0 ≤ 6 * mm → 6 * mm + 1 ≤ e0 + k44 → (6 * i ≤ e0 ∧ ∀ z, S1 z = if 1 + 6 * i ≤ z ∧ z < 1 + e0 then mS_38 (z + 6) else mS_38 z) → va_P D vwCl (MdW om xS xV xB xT xA xP xR cI 0 S1 (svF q mSv mS) (nI ((if q < 6 then q else 5) + 1)) mBf kLn mTl mAl mPl kBs kLf kAt kWl mRd kRm hsh) H → va_D (wr_in (MdW om xS xV xB xT xA xP xR cI thr mS mSv (nI q) mBf kLn mTl mAl mPl kBs kLf kAt kWl mRd kRm hsh)) (MdW om xS xV xB xT xA xP xR cI 0 S1 (svF q mSv mS) (nI ((if q < 6 then q else 5) + 1)) mBf kLn mTl mAl mPl kBs kLf kAt kWl mRd kRm hsh) → va_S (wr_in (MdW om xS xV xB xT xA xP xR cI thr mS mSv (nI q) mBf kLn mTl mAl mPl kBs kLf kAt kWl mRd kRm hsh)) s.heap H locs → lv_has ls 4 [(0, .ref om), (1, .int (nI i)), (2, .int (mOM n P (nI i))), (3, .int (nI e0))] → wr_W p l e wsX5_remove ({ frames := 7, cells := 0, slots := 0, locals := 160 } : Room) s m [.ref om, .int x] below meth c D (MdW om xS xV xB xT xA xP xR cI thr mS mSv (nI q) mBf kLn mTl mAl mPl kBs kLf kAt kWl mRd kRm hsh) (fun v w9 => (gHas n x = false ∧ v = some (.int 0) ∧ w9 = MdW om xS xV xB xT xA xP xR cI 1 mS mSv (nI q) mBf kLn mTl mAl mPl kBs kLf kAt kWl mRd kRm hsh) ∨ (∃ i mm, i < n ∧ n = mm + 1 ∧ x = nI i ∧ v = some (.int (mOM mm (gOut P i) (-1) - mOM n P (nI i))) ∧ ∃ S9 : Nat → Int32, mdS mm (gOut P i) S9 ∧ w9 = MdW om xS xV xB xT xA xP xR cI 0 S9 (svF q mSv mS) (nI ((if q < 6 then q else 5) + 1)) mBf kLn mTl mAl mPl kBs kLf kAt kWl mRd kRm hsh)) H locs (F0 m 44 ls []) from
      loop44 (6 * mm + 1) (6 * i) mS_38 H locs ls (by omega) (by omega) (by exact ⟨Nat.le_refl _, fun z => by rw [if_neg (by omega)]⟩) hP hD hS (lv_sub hl [2, 3, 1, 0] rfl)
    intro k44
    induction k44 with
    | zero => intro e0 S1 H locs ls h1 h2; exact absurd h2 (by omega)
    | succ k44 ih44 =>
      intro e0 S1 H locs ls hle44 hlt44 inv44 hP hD hS hl
      refine lv_iload_n hx hb dX5_remove_44 rfl (lv_at hl 3 rfl) ?_
      refine lv_bipush (v := 6) hx hb dX5_remove_45 (by decide) ?_
      refine lv_aload_n hx hb dX5_remove_47 rfl (lv_at hl 0 rfl) ?_
      refine va_get (D := D) (ci := 5) (v := .ref xS) (C := RX5) (T := TX5) (N := 16) hx hb hts hinX5 hown hK hP 0 rfl rfl 1 (by decide) hw7 (fun _ h9 => h9) rfl dX5_remove_48 ?_
      refine lv_iconst (v := 0) hx hb dX5_remove_51 (by decide) ?_
      refine rd_ald (q0 := 1) (t0 := 0) (j := 0) (v := nI mm) hx hb hK hP rfl rfl (rfl) (by omega) (by decide) (by rw [inv44.2, if_neg (by omega), emS_38]; unfold upd; rw [if_pos rfl]) dX5_remove_52 ?_
      refine lv_imul hx hb dX5_remove_53 ?_
      refine lv_asi (y := nI (6 * mm)) (pk_mul 6 mm) ?_
      refine rd_icmp_ge_n (a := e0) (b := 6 * mm) (tgt := 82) (by omega) (by omega) hx hb dX5_remove_54 (by decide) (fun c_54 => ?_) (fun c_54 => ?_)
      · have c_54n := Nat.not_lt.mpr c_54
        refine lv_iconst (v := 0) hx hb dX5_remove_82 (by decide) ?_
        refine lv_istore_n (lv' := [(3, .int 0), (0, .ref om), (1, .int (nI i)), (2, .int (mOM n P (nI i)))]) hx hb dX5_remove_83 rfl hl (by decide) rfl (fun ls hl => ?_)
        suffices loop84 : ∀ (k84 k : Nat) (S2 : Nat → Int32) (H : Heap) (locs : List Loc) (ls : Array Slot), k ≤ 6 → 6 + 1 ≤ k + k84 → (∀ z, S2 z = if 1 + 6 * mm ≤ z ∧ z < 1 + 6 * mm + k then 0 else S1 z) → va_P D vwCl (MdW om xS xV xB xT xA xP xR cI 0 S2 (svF q mSv mS) (nI ((if q < 6 then q else 5) + 1)) mBf kLn mTl mAl mPl kBs kLf kAt kWl mRd kRm hsh) H → va_D (wr_in (MdW om xS xV xB xT xA xP xR cI thr mS mSv (nI q) mBf kLn mTl mAl mPl kBs kLf kAt kWl mRd kRm hsh)) (MdW om xS xV xB xT xA xP xR cI 0 S2 (svF q mSv mS) (nI ((if q < 6 then q else 5) + 1)) mBf kLn mTl mAl mPl kBs kLf kAt kWl mRd kRm hsh) → va_S (wr_in (MdW om xS xV xB xT xA xP xR cI thr mS mSv (nI q) mBf kLn mTl mAl mPl kBs kLf kAt kWl mRd kRm hsh)) s.heap H locs → lv_has ls 4 [(0, .ref om), (1, .int (nI i)), (2, .int (mOM n P (nI i))), (3, .int (nI k))] → wr_W p l e wsX5_remove ({ frames := 7, cells := 0, slots := 0, locals := 160 } : Room) s m [.ref om, .int x] below meth c D (MdW om xS xV xB xT xA xP xR cI thr mS mSv (nI q) mBf kLn mTl mAl mPl kBs kLf kAt kWl mRd kRm hsh) (fun v w9 => (gHas n x = false ∧ v = some (.int 0) ∧ w9 = MdW om xS xV xB xT xA xP xR cI 1 mS mSv (nI q) mBf kLn mTl mAl mPl kBs kLf kAt kWl mRd kRm hsh) ∨ (∃ i mm, i < n ∧ n = mm + 1 ∧ x = nI i ∧ v = some (.int (mOM mm (gOut P i) (-1) - mOM n P (nI i))) ∧ ∃ S9 : Nat → Int32, mdS mm (gOut P i) S9 ∧ w9 = MdW om xS xV xB xT xA xP xR cI 0 S9 (svF q mSv mS) (nI ((if q < 6 then q else 5) + 1)) mBf kLn mTl mAl mPl kBs kLf kAt kWl mRd kRm hsh)) H locs (F0 m 84 ls []) from
          loop84 (6 + 1) 0 S1 H locs ls (by omega) (by omega) (by exact fun z => by rw [if_neg (by omega)]) hP hD hS (lv_sub hl [1, 2, 3, 0] rfl)
        intro k84
        induction k84 with
        | zero => intro k S2 H locs ls h1 h2; exact absurd h2 (by omega)
        | succ k84 ih84 =>
          intro k S2 H locs ls hle84 hlt84 inv84 hP hD hS hl
          refine lv_iload_n hx hb dX5_remove_84 rfl (lv_at hl 3 rfl) ?_
          refine lv_bipush (v := 6) hx hb dX5_remove_85 (by decide) ?_
          refine rd_icmp_ge_n (a := k) (b := 6) (tgt := 115) (by omega) (by omega) hx hb dX5_remove_87 (by decide) (fun c_87 => ?_) (fun c_87 => ?_)
          · have c_87n := Nat.not_lt.mpr c_87
            have hQ3 : mdS mm (gOut P i) S2 := mdS_out hn8 en (by omega) hQ emS_38 (by omega) inv44 (by omega) inv84
            have hbk3 : bd_ok mm (gOut P i) := bd_ok_out en (by omega) hbk
            refine lv_aload_n hx hb dX5_remove_115 rfl (lv_at hl 0 rfl) ?_
            refine lv_iconst (v := (-1)) hx hb dX5_remove_116 (by decide) ?_
            have hmd : md_in (MdW om xS xV xB xT xA xP xR cI 0 S2 (svF q mSv mS) (nI ((if q < 6 then q else 5) + 1)) mBf kLn mTl mAl mPl kBs kLf kAt kWl mRd kRm hsh) [(cI, .int)] om mm (gOut P i) := ⟨0, 1, 0, xS, cI, S2, _, rfl, rfl, rfl, rfl, (by omega), hQ3.1, hQ3.2, hbk3⟩
            refine rd_callV (As := [.int (-1)]) (rest := []) ⟨hx, hb, hml, hown, hts⟩ (c_X5_openMany l D hmd (-1)) (cwV 1 hts gX5_remove_X5_openMany rfl rfl rfl (by decide +kernel) ⟨by decide, by decide⟩) hK hN hP (q0 := 0) rfl rfl rfl hl.1 rfl (Nat.le_of_ble_eq_true rfl) ⟨by decide, by decide⟩ dX5_remove_117 ?_
            refine lv_iload_n hx hb dX5_remove_120 rfl (lv_at hl 2 rfl) ?_
            refine lv_isub hx hb dX5_remove_121 ?_
            exact wr_iret hx hb hr hlocks hP hS rfl dX5_remove_122 (by exact Or.inr ⟨i, mm, hi, en, ei, rfl, _, hQ3, rfl⟩)
          · have c_87n := Nat.not_le.mpr c_87
            refine lv_aload_n hx hb dX5_remove_90 rfl (lv_at hl 0 rfl) ?_
            refine va_get (D := D) (ci := 5) (v := .ref xS) (C := RX5) (T := TX5) (N := 16) hx hb hts hinX5 hown hK hP 0 rfl rfl 1 (by decide) hw7 (fun _ h9 => h9) rfl dX5_remove_91 ?_
            refine lv_iconst (v := 1) hx hb dX5_remove_94 (by decide) ?_
            refine lv_bipush (v := 6) hx hb dX5_remove_95 (by decide) ?_
            refine lv_aload_n hx hb dX5_remove_97 rfl (lv_at hl 0 rfl) ?_
            refine va_get (D := D) (ci := 5) (v := .ref xS) (C := RX5) (T := TX5) (N := 16) hx hb hts hinX5 hown hK hP 0 rfl rfl 1 (by decide) hw7 (fun _ h9 => h9) rfl dX5_remove_98 ?_
            refine lv_iconst (v := 0) hx hb dX5_remove_101 (by decide) ?_
            refine rd_ald (q0 := 1) (t0 := 0) (j := 0) (v := nI mm) hx hb hK hP rfl rfl (rfl) (by omega) (by decide) (by rw [inv84, if_neg (by omega), inv44.2, if_neg (by omega), emS_38]; unfold upd; rw [if_pos rfl]) dX5_remove_102 ?_
            refine lv_imul hx hb dX5_remove_103 ?_
            refine lv_asi (y := nI (6 * mm)) (pk_mul 6 mm) ?_
            refine lv_iadd hx hb dX5_remove_104 ?_
            refine lv_asi (y := nI (1 + (6 * mm))) (nI_add 1 (6 * mm)) ?_
            refine lv_iload_n hx hb dX5_remove_105 rfl (lv_at hl 3 rfl) ?_
            refine lv_iadd hx hb dX5_remove_106 ?_
            refine lv_asi (y := nI ((1 + (6 * mm)) + k)) (nI_add (1 + (6 * mm)) k) ?_
            refine lv_iconst (v := 0) hx hb dX5_remove_107 (by decide) ?_
            refine wr_ast (q0 := 1) (t0 := 0) (j := (1 + (6 * mm)) + k) hx hb hK hP hD hS rfl rfl (rfl) (by omega) (by decide) dX5_remove_108 (fun H locs hP hD hS => ?_)
            obtain ⟨mS_108, emS_108⟩ : ∃ zz9 : Nat → Int32, zz9 = upd S2 ((1 + (6 * mm)) + k) 0 := ⟨_, rfl⟩
            rw [← emS_108] at hP hD
            have hP : va_P D vwCl (MdW om xS xV xB xT xA xP xR cI 0 mS_108 (svF q mSv mS) (nI ((if q < 6 then q else 5) + 1)) mBf kLn mTl mAl mPl kBs kLf kAt kWl mRd kRm hsh) H := hP
            have hD : va_D (wr_in (MdW om xS xV xB xT xA xP xR cI thr mS mSv (nI q) mBf kLn mTl mAl mPl kBs kLf kAt kWl mRd kRm hsh)) (MdW om xS xV xB xT xA xP xR cI 0 mS_108 (svF q mSv mS) (nI ((if q < 6 then q else 5) + 1)) mBf kLn mTl mAl mPl kBs kLf kAt kWl mRd kRm hsh) := hD
            refine lv_iinc (v := nI (k + 1)) (lv' := [(3, .int (nI (k + 1))), (0, .ref om), (1, .int (nI i)), (2, .int (mOM n P (nI i)))]) hx hb dX5_remove_109 hl (k := 3) rfl (nI_add k 1) (by decide) rfl (fun ls hl => ?_)
            refine lv_goto (tgt := 84) hx hb dX5_remove_112 (by decide) ?_
            exact ih84 (k + 1) mS_108 H locs ls (by omega) (by omega) (by exact out0_step inv84 emS_108) hP hD hS (lv_sub hl [1, 2, 3, 0] rfl)
      · have c_54n := Nat.not_le.mpr c_54
        refine lv_aload_n hx hb dX5_remove_57 rfl (lv_at hl 0 rfl) ?_
        refine va_get (D := D) (ci := 5) (v := .ref xS) (C := RX5) (T := TX5) (N := 16) hx hb hts hinX5 hown hK hP 0 rfl rfl 1 (by decide) hw7 (fun _ h9 => h9) rfl dX5_remove_58 ?_
        refine lv_iconst (v := 1) hx hb dX5_remove_61 (by decide) ?_
        refine lv_iload_n hx hb dX5_remove_62 rfl (lv_at hl 3 rfl) ?_
        refine lv_iadd hx hb dX5_remove_63 ?_
        refine lv_asi (y := nI (1 + e0)) (nI_add 1 e0) ?_
        refine lv_aload_n hx hb dX5_remove_64 rfl (lv_at hl 0 rfl) ?_
        refine va_get (D := D) (ci := 5) (v := .ref xS) (C := RX5) (T := TX5) (N := 16) hx hb hts hinX5 hown hK hP 0 rfl rfl 1 (by decide) hw7 (fun _ h9 => h9) rfl dX5_remove_65 ?_
        refine lv_iconst (v := 1) hx hb dX5_remove_68 (by decide) ?_
        refine lv_iload_n hx hb dX5_remove_69 rfl (lv_at hl 3 rfl) ?_
        refine lv_iadd hx hb dX5_remove_70 ?_
        refine lv_asi (y := nI (1 + e0)) (nI_add 1 e0) ?_
        refine lv_bipush (v := 6) hx hb dX5_remove_71 (by decide) ?_
        refine lv_iadd hx hb dX5_remove_73 ?_
        refine lv_asi (y := nI ((1 + e0) + 6)) (nI_add (1 + e0) 6) ?_
        refine rd_ald (q0 := 1) (t0 := 0) (j := (1 + e0) + 6) (v := S1 ((1 + e0) + 6)) hx hb hK hP rfl rfl (rfl) (by omega) (by decide) (rfl) dX5_remove_74 ?_
        refine wr_ast (q0 := 1) (t0 := 0) (j := 1 + e0) hx hb hK hP hD hS rfl rfl (rfl) (by omega) (by decide) dX5_remove_75 (fun H locs hP hD hS => ?_)
        obtain ⟨mS_75, emS_75⟩ : ∃ zz9 : Nat → Int32, zz9 = upd S1 (1 + e0) (S1 ((1 + e0) + 6)) := ⟨_, rfl⟩
        rw [← emS_75] at hP hD
        have hP : va_P D vwCl (MdW om xS xV xB xT xA xP xR cI 0 mS_75 (svF q mSv mS) (nI ((if q < 6 then q else 5) + 1)) mBf kLn mTl mAl mPl kBs kLf kAt kWl mRd kRm hsh) H := hP
        have hD : va_D (wr_in (MdW om xS xV xB xT xA xP xR cI thr mS mSv (nI q) mBf kLn mTl mAl mPl kBs kLf kAt kWl mRd kRm hsh)) (MdW om xS xV xB xT xA xP xR cI 0 mS_75 (svF q mSv mS) (nI ((if q < 6 then q else 5) + 1)) mBf kLn mTl mAl mPl kBs kLf kAt kWl mRd kRm hsh) := hD
        refine lv_iinc (v := nI (e0 + 1)) (lv' := [(3, .int (nI (e0 + 1))), (0, .ref om), (1, .int (nI i)), (2, .int (mOM n P (nI i)))]) hx hb dX5_remove_76 hl (k := 3) rfl (nI_add e0 1) (by decide) rfl (fun ls hl => ?_)
        refine lv_goto (tgt := 44) hx hb dX5_remove_79 (by decide) ?_
        exact ih44 (e0 + 1) mS_75 H locs ls (by omega) (by omega) (by exact out6_step inv44 emS_75) hP hD hS (lv_sub hl [1, 2, 3, 0] rfl)
  · refine lv_aload_n hx hb dX5_remove_13 rfl (lv_at hl 0 rfl) ?_
    refine lv_iconst (v := 1) hx hb dX5_remove_14 (by decide) ?_
    refine wr_callV (As := [.int 1]) (rest := []) ⟨hx, hb, hml, hown, hts⟩ (c_X5_fails l D 1) (cwV 1 hts gX5_remove_X5_fails rfl rfl rfl (by decide +kernel) ⟨by decide, by decide⟩) hK hN hZ hP hD hS [0, 1, 2, 3, 4, 5, 6, 7] [0] rfl (by decide) rfl (q0 := 0) rfl rfl rfl hl.1 rfl (Nat.le_of_ble_eq_true rfl) ⟨by decide, by decide⟩ dX5_remove_15 (fun v9 w9 H locs hp9 hP hD hS => ?_)
    obtain ⟨rfl, rfl⟩ := hp9
    have hP : va_P D vwCl (MdW om xS xV xB xT xA xP xR cI 1 mS mSv (nI q) mBf kLn mTl mAl mPl kBs kLf kAt kWl mRd kRm hsh) H := hP
    have hD : va_D (wr_in (MdW om xS xV xB xT xA xP xR cI thr mS mSv (nI q) mBf kLn mTl mAl mPl kBs kLf kAt kWl mRd kRm hsh)) (MdW om xS xV xB xT xA xP xR cI 1 mS mSv (nI q) mBf kLn mTl mAl mPl kBs kLf kAt kWl mRd kRm hsh) := hD
    refine W.eq (g2 := F0 m 18 ls [.int 0]) rfl ?_
    exact wr_iret hx hb hr hlocks hP hS rfl dX5_remove_18 (by exact Or.inl ⟨c_10, rfl, rfl⟩)
set_option maxHeartbeats 4000000 in
set_option maxRecDepth 100000 in
theorem c_X5_mirror (l : Launch) (D : va_G) {om xS xV xB xT xA xP xR : Nat} {cI : ClassId} {thr kLn kBs kLf kAt kWl kRm : Int32} {hsh : Int64} {mS mSv mBf mTl mAl mPl mRd : Nat → Int32} {n : Nat} {P : Nat → Nat → Int32} {q : Nat} (hq6 : q ≤ 6) (hn8 : n ≤ 8) (hQ : mdS n P mS) (hbk : bd_ok n P) : wr_M l yX5_mirror wsX5_mirror ({ frames := 3, cells := 0, slots := 0, locals := 65 } : Room) D (MdW om xS xV xB xT xA xP xR cI thr mS mSv (nI q) mBf kLn mTl mAl mPl kBs kLf kAt kWl mRd kRm hsh) [(cI, .int)] [.ref om] (fun v w9 => v = some (.int (gN n (gFlp P))) ∧ ∃ S9 : Nat → Int32, mdS n (gFlp P) S9 ∧ w9 = MdW om xS xV xB xT xA xP xR cI 0 S9 (svF q mSv mS) (nI ((if q < 6 then q else 5) + 1)) mBf kLn mTl mAl mPl kBs kLf kAt kWl mRd kRm hsh) := by
  refine wr_of (cc := cX5_mirror) (maxL := 2) (ret := some .int) (by decide) rfl (Nat.le_of_ble_eq_true rfl) ?_
  intro p e s m below meth c hx hb hr hml hts hown hlocks hP hK hN hZ hD hS ls hl
  have hown : s.vm.findClass RX5 = some m.cls := hown
  have hl : lv_has ls 2 [(0, .ref om)] := hl
  have hinX5 : ∀ w ∈ u_ws RX5 TX5 16, w ∈ wsX5_mirror := by decide +kernel
  have hw31 := hts (.fieldLink RX5 31 "CornerLabelsModel" "thrown" "I") (by decide +kernel)
  have hw7 := hts (.fieldLink RX5 7 "CornerLabelsModel" "s" "[I") (by decide +kernel)
  suffices body : ∀ (H : Heap) (locs : List Loc), va_P D vwCl (MdW om xS xV xB xT xA xP xR cI thr mS mSv (nI q) mBf kLn mTl mAl mPl kBs kLf kAt kWl mRd kRm hsh) H → va_D (wr_in (MdW om xS xV xB xT xA xP xR cI thr mS mSv (nI q) mBf kLn mTl mAl mPl kBs kLf kAt kWl mRd kRm hsh)) (MdW om xS xV xB xT xA xP xR cI thr mS mSv (nI q) mBf kLn mTl mAl mPl kBs kLf kAt kWl mRd kRm hsh) → va_S (wr_in (MdW om xS xV xB xT xA xP xR cI thr mS mSv (nI q) mBf kLn mTl mAl mPl kBs kLf kAt kWl mRd kRm hsh)) s.heap H locs → wr_W p l e wsX5_mirror ({ frames := 3, cells := 0, slots := 0, locals := 65 } : Room) s m [.ref om] below meth c D (MdW om xS xV xB xT xA xP xR cI thr mS mSv (nI q) mBf kLn mTl mAl mPl kBs kLf kAt kWl mRd kRm hsh) (fun v w9 => v = some (.int (gN n (gFlp P))) ∧ ∃ S9 : Nat → Int32, mdS n (gFlp P) S9 ∧ w9 = MdW om xS xV xB xT xA xP xR cI 0 S9 (svF q mSv mS) (nI ((if q < 6 then q else 5) + 1)) mBf kLn mTl mAl mPl kBs kLf kAt kWl mRd kRm hsh) H locs (F0 m 0 ls []) from body _ _ hP hD hS
  clear hP hD hS
  intro H locs hP hD hS
  refine lv_aload_n hx hb dX5_mirror_0 rfl (lv_at hl 0 rfl) ?_
  refine lv_iconst (v := 0) hx hb dX5_mirror_1 (by decide) ?_
  refine va_put (D := D) (ci := 5) (v := .int 0) (ty := .int) (C := RX5) (T := TX5) (N := 16) hx hb hts hinX5 tyX5 tyX5_ok nmX5 hown hK hP hD hS 0 rfl rfl 0 (by decide) hw31 (fun _ h9 => h9) rfl (by decide +kernel) rfl rfl (Nat.le_of_ble_eq_true rfl) dX5_mirror_2 (fun H locs hP hD hS => ?_)
  have hP : va_P D vwCl (MdW om xS xV xB xT xA xP xR cI 0 mS mSv (nI q) mBf kLn mTl mAl mPl kBs kLf kAt kWl mRd kRm hsh) H := hP
  have hD : va_D (wr_in (MdW om xS xV xB xT xA xP xR cI thr mS mSv (nI q) mBf kLn mTl mAl mPl kBs kLf kAt kWl mRd kRm hsh)) (MdW om xS xV xB xT xA xP xR cI 0 mS mSv (nI q) mBf kLn mTl mAl mPl kBs kLf kAt kWl mRd kRm hsh) := hD
  refine lv_aload_n hx hb dX5_mirror_5 rfl (lv_at hl 0 rfl) ?_
  refine wr_callV (As := []) (rest := []) ⟨hx, hb, hml, hown, hts⟩ (c_X5_saves l D (q := q) hq6) (cwV 0 hts gX5_mirror_X5_saves rfl rfl rfl (by decide +kernel) ⟨by decide, by decide⟩) hK hN hZ hP hD hS [0, 1, 2, 3, 4, 5, 6, 7] [0] rfl (by decide) rfl (q0 := 0) rfl rfl rfl hl.1 rfl (Nat.le_of_ble_eq_true rfl) ⟨by decide, by decide⟩ dX5_mirror_6 (fun v9 w9 H locs hp9 hP hD hS => ?_)
  obtain ⟨rfl, rfl⟩ := hp9
  have hP : va_P D vwCl (MdW om xS xV xB xT xA xP xR cI 0 mS (svF q mSv mS) (nI ((if q < 6 then q else 5) + 1)) mBf kLn mTl mAl mPl kBs kLf kAt kWl mRd kRm hsh) H := hP
  have hD : va_D (wr_in (MdW om xS xV xB xT xA xP xR cI thr mS mSv (nI q) mBf kLn mTl mAl mPl kBs kLf kAt kWl mRd kRm hsh)) (MdW om xS xV xB xT xA xP xR cI 0 mS (svF q mSv mS) (nI ((if q < 6 then q else 5) + 1)) mBf kLn mTl mAl mPl kBs kLf kAt kWl mRd kRm hsh) := hD
  refine W.eq (g2 := F0 m 9 ls []) rfl ?_
  refine lv_iconst (v := 0) hx hb dX5_mirror_9 (by decide) ?_
  refine lv_istore_n (lv' := [(1, .int 0), (0, .ref om)]) hx hb dX5_mirror_10 rfl hl (by decide) rfl (fun ls hl => ?_)
  suffices loop11 : ∀ (k11 i : Nat) (S1 : Nat → Int32) (H : Heap) (locs : List Loc) (ls : Array Slot), i ≤ n → n + 1 ≤ i + k11 → (mdS n (mFq P i) S1) → va_P D vwCl (MdW om xS xV xB xT xA xP xR cI 0 S1 (svF q mSv mS) (nI ((if q < 6 then q else 5) + 1)) mBf kLn mTl mAl mPl kBs kLf kAt kWl mRd kRm hsh) H → va_D (wr_in (MdW om xS xV xB xT xA xP xR cI thr mS mSv (nI q) mBf kLn mTl mAl mPl kBs kLf kAt kWl mRd kRm hsh)) (MdW om xS xV xB xT xA xP xR cI 0 S1 (svF q mSv mS) (nI ((if q < 6 then q else 5) + 1)) mBf kLn mTl mAl mPl kBs kLf kAt kWl mRd kRm hsh) → va_S (wr_in (MdW om xS xV xB xT xA xP xR cI thr mS mSv (nI q) mBf kLn mTl mAl mPl kBs kLf kAt kWl mRd kRm hsh)) s.heap H locs → lv_has ls 2 [(0, .ref om), (1, .int (nI i))] → wr_W p l e wsX5_mirror ({ frames := 3, cells := 0, slots := 0, locals := 65 } : Room) s m [.ref om] below meth c D (MdW om xS xV xB xT xA xP xR cI thr mS mSv (nI q) mBf kLn mTl mAl mPl kBs kLf kAt kWl mRd kRm hsh) (fun v w9 => v = some (.int (gN n (gFlp P))) ∧ ∃ S9 : Nat → Int32, mdS n (gFlp P) S9 ∧ w9 = MdW om xS xV xB xT xA xP xR cI 0 S9 (svF q mSv mS) (nI ((if q < 6 then q else 5) + 1)) mBf kLn mTl mAl mPl kBs kLf kAt kWl mRd kRm hsh) H locs (F0 m 11 ls []) from
    loop11 (n + 1) 0 mS H locs ls (by omega) (by omega) (by exact mFq_init hQ) hP hD hS (lv_sub hl [1, 0] rfl)
  intro k11
  induction k11 with
  | zero => intro i S1 H locs ls h1 h2; exact absurd h2 (by omega)
  | succ k11 ih11 =>
    intro i S1 H locs ls hle11 hlt11 inv11 hP hD hS hl
    refine lv_iload_n hx hb dX5_mirror_11 rfl (lv_at hl 1 rfl) ?_
    refine lv_aload_n hx hb dX5_mirror_12 rfl (lv_at hl 0 rfl) ?_
    refine va_get (D := D) (ci := 5) (v := .ref xS) (C := RX5) (T := TX5) (N := 16) hx hb hts hinX5 hown hK hP 0 rfl rfl 1 (by decide) hw7 (fun _ h9 => h9) rfl dX5_mirror_13 ?_
    refine lv_iconst (v := 0) hx hb dX5_mirror_16 (by decide) ?_
    refine rd_ald (q0 := 1) (t0 := 0) (j := 0) (v := nI n) hx hb hK hP rfl rfl (rfl) (by omega) (by decide) (inv11.1) dX5_mirror_17 ?_
    refine rd_icmp_ge_n (a := i) (b := n) (tgt := 74) (by omega) (by omega) hx hb dX5_mirror_18 (by decide) (fun c_18 => ?_) (fun c_18 => ?_)
    · have c_18n := Nat.not_lt.mpr c_18
      refine lv_aload_n hx hb dX5_mirror_74 rfl (lv_at hl 0 rfl) ?_
      have hmd : md_in (MdW om xS xV xB xT xA xP xR cI 0 S1 (svF q mSv mS) (nI ((if q < 6 then q else 5) + 1)) mBf kLn mTl mAl mPl kBs kLf kAt kWl mRd kRm hsh) [(cI, .int)] om n (mFq P i) := ⟨0, 1, 0, xS, cI, S1, _, rfl, rfl, rfl, rfl, hn8, inv11.1, inv11.2, (bd_ok_fq hbk)⟩
      refine rd_callV (As := []) (rest := []) ⟨hx, hb, hml, hown, hts⟩ (c_X5_standing l D hmd) (cwV 0 hts gX5_mirror_X5_standing rfl rfl rfl (by decide +kernel) ⟨by decide, by decide⟩) hK hN hP (q0 := 0) rfl rfl rfl hl.1 rfl (Nat.le_of_ble_eq_true rfl) ⟨by decide, by decide⟩ dX5_mirror_75 ?_
      exact wr_iret hx hb hr hlocks hP hS rfl dX5_mirror_78 (by exact ⟨by rw [mFq_gN c_18], S1, mFq_fin c_18 inv11, rfl⟩)
    · have c_18n := Nat.not_le.mpr c_18
      refine lv_aload_n hx hb dX5_mirror_21 rfl (lv_at hl 0 rfl) ?_
      refine va_get (D := D) (ci := 5) (v := .ref xS) (C := RX5) (T := TX5) (N := 16) hx hb hts hinX5 hown hK hP 0 rfl rfl 1 (by decide) hw7 (fun _ h9 => h9) rfl dX5_mirror_22 ?_
      refine lv_iconst (v := 1) hx hb dX5_mirror_25 (by decide) ?_
      refine lv_bipush (v := 6) hx hb dX5_mirror_26 (by decide) ?_
      refine lv_iload_n hx hb dX5_mirror_28 rfl (lv_at hl 1 rfl) ?_
      refine lv_imul hx hb dX5_mirror_29 ?_
      refine lv_asi (y := nI (6 * i)) (pk_mul 6 i) ?_
      refine lv_iadd hx hb dX5_mirror_30 ?_
      refine lv_asi (y := nI (1 + (6 * i))) (nI_add 1 (6 * i)) ?_
      refine lv_iconst (v := 0) hx hb dX5_mirror_31 (by decide) ?_
      refine lv_iadd hx hb dX5_mirror_32 ?_
      refine lv_asi (y := nI ((1 + (6 * i)) + 0)) (nI_add (1 + (6 * i)) 0) ?_
      refine lv_bipush (v := 59) hx hb dX5_mirror_33 (by decide) ?_
      refine lv_aload_n hx hb dX5_mirror_35 rfl (lv_at hl 0 rfl) ?_
      refine lv_iload_n hx hb dX5_mirror_36 rfl (lv_at hl 1 rfl) ?_
      refine lv_iconst (v := 0) hx hb dX5_mirror_37 (by decide) ?_
      have hmd : md_in (MdW om xS xV xB xT xA xP xR cI 0 S1 (svF q mSv mS) (nI ((if q < 6 then q else 5) + 1)) mBf kLn mTl mAl mPl kBs kLf kAt kWl mRd kRm hsh) [(cI, .int)] om n (mFq P i) := ⟨0, 1, 0, xS, cI, S1, _, rfl, rfl, rfl, rfl, hn8, inv11.1, inv11.2, (bd_ok_fq hbk)⟩
      refine rd_callV (As := [.int (nI i), .int 0]) (rest := [.int 59, .int (nI ((1 + (6 * i)) + 0)), .ref xS]) ⟨hx, hb, hml, hown, hts⟩ (c_X5_of l D hmd c_18 (k := 0) (by decide)) (cwV 2 hts gX5_mirror_X5_of rfl rfl rfl (by decide +kernel) ⟨by decide, by decide⟩) hK hN hP (q0 := 0) rfl rfl rfl hl.1 rfl (Nat.le_of_ble_eq_true rfl) ⟨by decide, by decide⟩ dX5_mirror_38 ?_
      refine lv_asi (y := (mFq P i) i 0) (rfl) ?_
      refine lv_isub hx hb dX5_mirror_41 ?_
      refine wr_ast (q0 := 1) (t0 := 0) (j := (1 + (6 * i)) + 0) hx hb hK hP hD hS rfl rfl (rfl) (by omega) (by decide) dX5_mirror_42 (fun H locs hP hD hS => ?_)
      obtain ⟨mS_42, emS_42⟩ : ∃ zz9 : Nat → Int32, zz9 = upd S1 ((1 + (6 * i)) + 0) (59 - ((mFq P i) i 0)) := ⟨_, rfl⟩
      rw [← emS_42] at hP hD
      have hP : va_P D vwCl (MdW om xS xV xB xT xA xP xR cI 0 mS_42 (svF q mSv mS) (nI ((if q < 6 then q else 5) + 1)) mBf kLn mTl mAl mPl kBs kLf kAt kWl mRd kRm hsh) H := hP
      have hD : va_D (wr_in (MdW om xS xV xB xT xA xP xR cI thr mS mSv (nI q) mBf kLn mTl mAl mPl kBs kLf kAt kWl mRd kRm hsh)) (MdW om xS xV xB xT xA xP xR cI 0 mS_42 (svF q mSv mS) (nI ((if q < 6 then q else 5) + 1)) mBf kLn mTl mAl mPl kBs kLf kAt kWl mRd kRm hsh) := hD
      have hQ2 := mdS_set (k := 0) (v := 59 - mFq P i i 0) c_18 (by decide) inv11 emS_42
      refine lv_aload_n hx hb dX5_mirror_43 rfl (lv_at hl 0 rfl) ?_
      refine lv_iload_n hx hb dX5_mirror_44 rfl (lv_at hl 1 rfl) ?_
      suffices j65 : ∀ ls : Array Slot, lv_has ls 2 [(0, .ref om), (1, .int (nI i))] → wr_W p l e wsX5_mirror ({ frames := 3, cells := 0, slots := 0, locals := 65 } : Room) s m [.ref om] below meth c D (MdW om xS xV xB xT xA xP xR cI thr mS mSv (nI q) mBf kLn mTl mAl mPl kBs kLf kAt kWl mRd kRm hsh) (fun v w9 => v = some (.int (gN n (gFlp P))) ∧ ∃ S9 : Nat → Int32, mdS n (gFlp P) S9 ∧ w9 = MdW om xS xV xB xT xA xP xR cI 0 S9 (svF q mSv mS) (nI ((if q < 6 then q else 5) + 1)) mBf kLn mTl mAl mPl kBs kLf kAt kWl mRd kRm hsh) H locs (F0 m 65 ls [.int (if (gSet (mFq P i) i 0 (59 - mFq P i i 0)) i 5 = -1 then -1 else (gSet (mFq P i) i 0 (59 - mFq P i i 0)) i 5 ^^^ 1), .int (nI i), .ref om]) by
        refine lv_aload_n hx hb dX5_mirror_45 rfl (lv_at hl 0 rfl) ?_
        refine lv_iload_n hx hb dX5_mirror_46 rfl (lv_at hl 1 rfl) ?_
        have hmd : md_in (MdW om xS xV xB xT xA xP xR cI 0 mS_42 (svF q mSv mS) (nI ((if q < 6 then q else 5) + 1)) mBf kLn mTl mAl mPl kBs kLf kAt kWl mRd kRm hsh) [(cI, .int)] om n (gSet (mFq P i) i 0 (59 - mFq P i i 0)) := ⟨0, 1, 0, xS, cI, mS_42, _, rfl, rfl, rfl, rfl, hn8, hQ2.1, hQ2.2, (bd_ok_fq2 hbk c_18)⟩
        refine rd_callV (As := [.int (nI i)]) (rest := [.int (nI i), .ref om]) ⟨hx, hb, hml, hown, hts⟩ (c_X5_cornerOf l D hmd c_18) (cwV 1 hts gX5_mirror_X5_cornerOf rfl rfl rfl (by decide +kernel) ⟨by decide, by decide⟩) hK hN hP (q0 := 0) rfl rfl rfl hl.1 rfl (Nat.le_of_ble_eq_true rfl) ⟨by decide, by decide⟩ dX5_mirror_47 ?_
        refine lv_iconst (v := (-1)) hx hb dX5_mirror_50 (by decide) ?_
        refine lv_icmp_ne (tgt := 58) hx hb dX5_mirror_51 (by decide) (fun c_51 => ?_) (fun c_51 => ?_)
        · refine lv_aload_n hx hb dX5_mirror_58 rfl (lv_at hl 0 rfl) ?_
          refine lv_iload_n hx hb dX5_mirror_59 rfl (lv_at hl 1 rfl) ?_
          have hmd : md_in (MdW om xS xV xB xT xA xP xR cI 0 mS_42 (svF q mSv mS) (nI ((if q < 6 then q else 5) + 1)) mBf kLn mTl mAl mPl kBs kLf kAt kWl mRd kRm hsh) [(cI, .int)] om n (gSet (mFq P i) i 0 (59 - mFq P i i 0)) := ⟨0, 1, 0, xS, cI, mS_42, _, rfl, rfl, rfl, rfl, hn8, hQ2.1, hQ2.2, (bd_ok_fq2 hbk c_18)⟩
          refine rd_callV (As := [.int (nI i)]) (rest := [.int (nI i), .ref om]) ⟨hx, hb, hml, hown, hts⟩ (c_X5_cornerOf l D hmd c_18) (cwV 1 hts gX5_mirror_X5_cornerOf rfl rfl rfl (by decide +kernel) ⟨by decide, by decide⟩) hK hN hP (q0 := 0) rfl rfl rfl hl.1 rfl (Nat.le_of_ble_eq_true rfl) ⟨by decide, by decide⟩ dX5_mirror_60 ?_
          refine lv_iconst (v := 1) hx hb dX5_mirror_63 (by decide) ?_
          refine lv_ixor hx hb dX5_mirror_64 ?_
          refine lv_asi (y := if (gSet (mFq P i) i 0 (59 - mFq P i i 0)) i 5 = -1 then -1 else (gSet (mFq P i) i 0 (59 - mFq P i i 0)) i 5 ^^^ 1) (by simp [c_51]) ?_
          exact j65 ls (lv_sub hl [0, 1] rfl)
        · refine lv_iconst (v := (-1)) hx hb dX5_mirror_54 (by decide) ?_
          refine lv_goto (tgt := 65) hx hb dX5_mirror_55 (by decide) ?_
          refine lv_asi (y := if (gSet (mFq P i) i 0 (59 - mFq P i i 0)) i 5 = -1 then -1 else (gSet (mFq P i) i 0 (59 - mFq P i i 0)) i 5 ^^^ 1) (by simp [c_51]) ?_
          exact j65 ls (lv_sub hl [0, 1] rfl)
      intro ls hl
      refine wr_callV (As := [.int (nI i), .int (if (gSet (mFq P i) i 0 (59 - mFq P i i 0)) i 5 = -1 then -1 else (gSet (mFq P i) i 0 (59 - mFq P i i 0)) i 5 ^^^ 1)]) (rest := []) ⟨hx, hb, hml, hown, hts⟩ (c_X5_stands l D (i := i) (by omega) (if (gSet (mFq P i) i 0 (59 - mFq P i i 0)) i 5 = -1 then -1 else (gSet (mFq P i) i 0 (59 - mFq P i i 0)) i 5 ^^^ 1)) (cwV 2 hts gX5_mirror_X5_stands rfl rfl rfl (by decide +kernel) ⟨by decide, by decide⟩) hK hN hZ hP hD hS [0, 1, 2, 3, 4, 5, 6, 7] [0] rfl (by decide) rfl (q0 := 0) rfl rfl rfl hl.1 rfl (Nat.le_of_ble_eq_true rfl) ⟨by decide, by decide⟩ dX5_mirror_65 (fun v9 w9 H locs hp9 hP hD hS => ?_)
      obtain ⟨rfl, rfl⟩ := hp9
      obtain ⟨mS_65, emS_65⟩ : ∃ zz9 : Nat → Int32, zz9 = upd mS_42 (1 + 6 * i + 5) ((if (gSet (mFq P i) i 0 (59 - mFq P i i 0)) i 5 = -1 then -1 else (gSet (mFq P i) i 0 (59 - mFq P i i 0)) i 5 ^^^ 1) + 1) := ⟨_, rfl⟩
      rw [← emS_65] at hP hD
      have hP : va_P D vwCl (MdW om xS xV xB xT xA xP xR cI 0 mS_65 (svF q mSv mS) (nI ((if q < 6 then q else 5) + 1)) mBf kLn mTl mAl mPl kBs kLf kAt kWl mRd kRm hsh) H := hP
      have hD : va_D (wr_in (MdW om xS xV xB xT xA xP xR cI thr mS mSv (nI q) mBf kLn mTl mAl mPl kBs kLf kAt kWl mRd kRm hsh)) (MdW om xS xV xB xT xA xP xR cI 0 mS_65 (svF q mSv mS) (nI ((if q < 6 then q else 5) + 1)) mBf kLn mTl mAl mPl kBs kLf kAt kWl mRd kRm hsh) := hD
      refine W.eq (g2 := F0 m 68 ls []) rfl ?_
      refine lv_iinc (v := nI (i + 1)) (lv' := [(1, .int (nI (i + 1))), (0, .ref om)]) hx hb dX5_mirror_68 hl (k := 1) rfl (nI_add i 1) (by decide) rfl (fun ls hl => ?_)
      refine lv_goto (tgt := 11) hx hb dX5_mirror_71 (by decide) ?_
      exact ih11 (i + 1) mS_65 H locs ls (by omega) (by omega) (by exact mFq_step c_18 hQ2 emS_65) hP hD hS (lv_sub hl [1, 0] rfl)
set_option maxHeartbeats 4000000 in
set_option maxRecDepth 100000 in
theorem c_X5_append (l : Launch) (D : va_G) {om xS xV xB xT xA xP xR : Nat} {cI : ClassId} {thr kBs kLf kAt kWl kRm : Int32} {hsh : Int64} {mS mSv mBf mTl mAl mPl mRd : Nat → Int32} {n : Nat} {P : Nat → Nat → Int32} {q : Nat} (hq6 : q ≤ 6) (hn8 : n ≤ 8) (hQ : mdS n P mS) (hbk : bd_ok n P) {b : Nat} (hb60 : b ≤ 60) (x : Int32) : wr_M l yX5_append wsX5_append ({ frames := 1, cells := 0, slots := 0, locals := 22 } : Room) D (MdW om xS xV xB xT xA xP xR cI thr mS mSv (nI q) mBf (nI b) mTl mAl mPl kBs kLf kAt kWl mRd kRm hsh) [(cI, .int)] [.ref om, .int x] (fun v w9 => (mIn x 33 126 = false ∧ v = some (.int 0) ∧ w9 = MdW om xS xV xB xT xA xP xR cI 1 mS mSv (nI q) mBf (nI b) mTl mAl mPl kBs kLf kAt kWl mRd kRm hsh) ∨ (mIn x 33 126 = true ∧ b = 60 ∧ v = some (.int 0) ∧ w9 = MdW om xS xV xB xT xA xP xR cI 2 mS mSv (nI q) mBf (nI b) mTl mAl mPl kBs kLf kAt kWl mRd kRm hsh) ∨ (mIn x 33 126 = true ∧ b < 60 ∧ v = some (.int (nI (b + 1))) ∧ w9 = MdW om xS xV xB xT xA xP xR cI 0 mS mSv (nI q) (upd mBf b x) (nI (b + 1)) mTl mAl mPl kBs kLf kAt kWl mRd kRm hsh)) := by
  refine wr_of (cc := cX5_append) (maxL := 2) (ret := some .int) (by decide) rfl (Nat.le_of_ble_eq_true rfl) ?_
  intro p e s m below meth c hx hb hr hml hts hown hlocks hP hK hN hZ hD hS ls hl
  have hown : s.vm.findClass RX5 = some m.cls := hown
  have hl : lv_has ls 2 [(0, .ref om), (1, .int x)] := hl
  have hinX5 : ∀ w ∈ u_ws RX5 TX5 16, w ∈ wsX5_append := by decide +kernel
  have hw31 := hts (.fieldLink RX5 31 "CornerLabelsModel" "thrown" "I") (by decide +kernel)
  have hw154 := hts (.fieldLink RX5 154 "CornerLabelsModel" "length" "I") (by decide +kernel)
  have hw16 := hts (.fieldLink RX5 16 "CornerLabelsModel" "buffer" "[I") (by decide +kernel)
  suffices body : ∀ (H : Heap) (locs : List Loc), va_P D vwCl (MdW om xS xV xB xT xA xP xR cI thr mS mSv (nI q) mBf (nI b) mTl mAl mPl kBs kLf kAt kWl mRd kRm hsh) H → va_D (wr_in (MdW om xS xV xB xT xA xP xR cI thr mS mSv (nI q) mBf (nI b) mTl mAl mPl kBs kLf kAt kWl mRd kRm hsh)) (MdW om xS xV xB xT xA xP xR cI thr mS mSv (nI q) mBf (nI b) mTl mAl mPl kBs kLf kAt kWl mRd kRm hsh) → va_S (wr_in (MdW om xS xV xB xT xA xP xR cI thr mS mSv (nI q) mBf (nI b) mTl mAl mPl kBs kLf kAt kWl mRd kRm hsh)) s.heap H locs → wr_W p l e wsX5_append ({ frames := 1, cells := 0, slots := 0, locals := 22 } : Room) s m [.ref om, .int x] below meth c D (MdW om xS xV xB xT xA xP xR cI thr mS mSv (nI q) mBf (nI b) mTl mAl mPl kBs kLf kAt kWl mRd kRm hsh) (fun v w9 => (mIn x 33 126 = false ∧ v = some (.int 0) ∧ w9 = MdW om xS xV xB xT xA xP xR cI 1 mS mSv (nI q) mBf (nI b) mTl mAl mPl kBs kLf kAt kWl mRd kRm hsh) ∨ (mIn x 33 126 = true ∧ b = 60 ∧ v = some (.int 0) ∧ w9 = MdW om xS xV xB xT xA xP xR cI 2 mS mSv (nI q) mBf (nI b) mTl mAl mPl kBs kLf kAt kWl mRd kRm hsh) ∨ (mIn x 33 126 = true ∧ b < 60 ∧ v = some (.int (nI (b + 1))) ∧ w9 = MdW om xS xV xB xT xA xP xR cI 0 mS mSv (nI q) (upd mBf b x) (nI (b + 1)) mTl mAl mPl kBs kLf kAt kWl mRd kRm hsh)) H locs (F0 m 0 ls []) from body _ _ hP hD hS
  clear hP hD hS
  intro H locs hP hD hS
  refine lv_aload_n hx hb dX5_append_0 rfl (lv_at hl 0 rfl) ?_
  refine lv_iconst (v := 0) hx hb dX5_append_1 (by decide) ?_
  refine va_put (D := D) (ci := 5) (v := .int 0) (ty := .int) (C := RX5) (T := TX5) (N := 16) hx hb hts hinX5 tyX5 tyX5_ok nmX5 hown hK hP hD hS 0 rfl rfl 0 (by decide) hw31 (fun _ h9 => h9) rfl (by decide +kernel) rfl rfl (Nat.le_of_ble_eq_true rfl) dX5_append_2 (fun H locs hP hD hS => ?_)
  have hP : va_P D vwCl (MdW om xS xV xB xT xA xP xR cI 0 mS mSv (nI q) mBf (nI b) mTl mAl mPl kBs kLf kAt kWl mRd kRm hsh) H := hP
  have hD : va_D (wr_in (MdW om xS xV xB xT xA xP xR cI thr mS mSv (nI q) mBf (nI b) mTl mAl mPl kBs kLf kAt kWl mRd kRm hsh)) (MdW om xS xV xB xT xA xP xR cI 0 mS mSv (nI q) mBf (nI b) mTl mAl mPl kBs kLf kAt kWl mRd kRm hsh) := hD
  refine lv_iload_n hx hb dX5_append_5 rfl (lv_at hl 1 rfl) ?_
  refine lv_bipush (v := 33) hx hb dX5_append_6 (by decide) ?_
  refine lv_bipush (v := 126) hx hb dX5_append_8 (by decide) ?_
  refine rd_callS (As := [.int x, .int 33, .int 126]) (rest := []) ⟨hx, hb, hml, hown, hts⟩ (c_X5_in l D x 33 126) (va_cwS 3 hts gX5_append_X5_in rfl rfl rfl (by decide +kernel) ⟨by decide, by decide⟩) hK hN hP rfl hl.1 rfl (Nat.le_of_ble_eq_true rfl) ⟨by decide, by decide⟩ dX5_append_10 ?_
  refine rd_ifne_b (tgt := 22) hx hb dX5_append_13 (by decide) (fun c_13 => ?_) (fun c_13 => ?_)
  · refine lv_aload_n hx hb dX5_append_22 rfl (lv_at hl 0 rfl) ?_
    refine va_get (D := D) (ci := 5) (v := .int (nI b)) (C := RX5) (T := TX5) (N := 16) hx hb hts hinX5 hown hK hP 0 rfl rfl 5 (by decide) hw154 (fun _ h9 => h9) rfl dX5_append_23 ?_
    refine lv_bipush (v := 60) hx hb dX5_append_26 (by decide) ?_
    refine rd_icmp_ne_n (a := b) (b := 60) (tgt := 37) (by omega) (by omega) hx hb dX5_append_28 (by decide) (fun c_28 => ?_) (fun c_28 => ?_)
    · refine lv_aload_n hx hb dX5_append_37 rfl (lv_at hl 0 rfl) ?_
      refine va_get (D := D) (ci := 5) (v := .ref xB) (C := RX5) (T := TX5) (N := 16) hx hb hts hinX5 hown hK hP 0 rfl rfl 4 (by decide) hw16 (fun _ h9 => h9) rfl dX5_append_38 ?_
      refine lv_aload_n hx hb dX5_append_41 rfl (lv_at hl 0 rfl) ?_
      refine va_get (D := D) (ci := 5) (v := .int (nI b)) (C := RX5) (T := TX5) (N := 16) hx hb hts hinX5 hown hK hP 0 rfl rfl 5 (by decide) hw154 (fun _ h9 => h9) rfl dX5_append_42 ?_
      refine lv_iload_n hx hb dX5_append_45 rfl (lv_at hl 1 rfl) ?_
      refine wr_ast (q0 := 3) (t0 := 0) (j := b) hx hb hK hP hD hS rfl rfl (rfl) (by omega) (by decide) dX5_append_46 (fun H locs hP hD hS => ?_)
      obtain ⟨mBf_46, emBf_46⟩ : ∃ zz9 : Nat → Int32, zz9 = upd mBf b x := ⟨_, rfl⟩
      rw [← emBf_46] at hP hD
      have hP : va_P D vwCl (MdW om xS xV xB xT xA xP xR cI 0 mS mSv (nI q) mBf_46 (nI b) mTl mAl mPl kBs kLf kAt kWl mRd kRm hsh) H := hP
      have hD : va_D (wr_in (MdW om xS xV xB xT xA xP xR cI thr mS mSv (nI q) mBf (nI b) mTl mAl mPl kBs kLf kAt kWl mRd kRm hsh)) (MdW om xS xV xB xT xA xP xR cI 0 mS mSv (nI q) mBf_46 (nI b) mTl mAl mPl kBs kLf kAt kWl mRd kRm hsh) := hD
      refine lv_aload_n hx hb dX5_append_47 rfl (lv_at hl 0 rfl) ?_
      refine lv_dup hx hb dX5_append_48 rfl ?_
      refine va_get (D := D) (ci := 5) (v := .int (nI b)) (C := RX5) (T := TX5) (N := 16) hx hb hts hinX5 hown hK hP 0 rfl rfl 5 (by decide) hw154 (fun _ h9 => h9) rfl dX5_append_49 ?_
      refine lv_iconst (v := 1) hx hb dX5_append_52 (by decide) ?_
      refine lv_iadd hx hb dX5_append_53 ?_
      refine lv_asi (y := nI (b + 1)) (nI_add b 1) ?_
      refine va_put (D := D) (ci := 5) (v := .int (nI (b + 1))) (ty := .int) (C := RX5) (T := TX5) (N := 16) hx hb hts hinX5 tyX5 tyX5_ok nmX5 hown hK hP hD hS 0 rfl rfl 5 (by decide) hw154 (fun _ h9 => h9) rfl (by decide +kernel) rfl rfl (Nat.le_of_ble_eq_true rfl) dX5_append_54 (fun H locs hP hD hS => ?_)
      have hP : va_P D vwCl (MdW om xS xV xB xT xA xP xR cI 0 mS mSv (nI q) mBf_46 (nI (b + 1)) mTl mAl mPl kBs kLf kAt kWl mRd kRm hsh) H := hP
      have hD : va_D (wr_in (MdW om xS xV xB xT xA xP xR cI thr mS mSv (nI q) mBf (nI b) mTl mAl mPl kBs kLf kAt kWl mRd kRm hsh)) (MdW om xS xV xB xT xA xP xR cI 0 mS mSv (nI q) mBf_46 (nI (b + 1)) mTl mAl mPl kBs kLf kAt kWl mRd kRm hsh) := hD
      refine lv_aload_n hx hb dX5_append_57 rfl (lv_at hl 0 rfl) ?_
      refine va_get (D := D) (ci := 5) (v := .int (nI (b + 1))) (C := RX5) (T := TX5) (N := 16) hx hb hts hinX5 hown hK hP 0 rfl rfl 5 (by decide) hw154 (fun _ h9 => h9) rfl dX5_append_58 ?_
      exact wr_iret hx hb hr hlocks hP hS rfl dX5_append_61 (by exact Or.inr (Or.inr ⟨c_13, by omega, rfl, by rw [emBf_46]⟩))
    · refine lv_aload_n hx hb dX5_append_31 rfl (lv_at hl 0 rfl) ?_
      refine lv_iconst (v := 2) hx hb dX5_append_32 (by decide) ?_
      refine wr_callV (As := [.int 2]) (rest := []) ⟨hx, hb, hml, hown, hts⟩ (c_X5_fails l D 2) (cwV 1 hts gX5_append_X5_fails rfl rfl rfl (by decide +kernel) ⟨by decide, by decide⟩) hK hN hZ hP hD hS [0, 1, 2, 3, 4, 5, 6, 7] [0] rfl (by decide) rfl (q0 := 0) rfl rfl rfl hl.1 rfl (Nat.le_of_ble_eq_true rfl) ⟨by decide, by decide⟩ dX5_append_33 (fun v9 w9 H locs hp9 hP hD hS => ?_)
      obtain ⟨rfl, rfl⟩ := hp9
      have hP : va_P D vwCl (MdW om xS xV xB xT xA xP xR cI 2 mS mSv (nI q) mBf (nI b) mTl mAl mPl kBs kLf kAt kWl mRd kRm hsh) H := hP
      have hD : va_D (wr_in (MdW om xS xV xB xT xA xP xR cI thr mS mSv (nI q) mBf (nI b) mTl mAl mPl kBs kLf kAt kWl mRd kRm hsh)) (MdW om xS xV xB xT xA xP xR cI 2 mS mSv (nI q) mBf (nI b) mTl mAl mPl kBs kLf kAt kWl mRd kRm hsh) := hD
      refine W.eq (g2 := F0 m 36 ls [.int 0]) rfl ?_
      exact wr_iret hx hb hr hlocks hP hS rfl dX5_append_36 (by exact Or.inr (Or.inl ⟨c_13, c_28, rfl, rfl⟩))
  · refine lv_aload_n hx hb dX5_append_16 rfl (lv_at hl 0 rfl) ?_
    refine lv_iconst (v := 1) hx hb dX5_append_17 (by decide) ?_
    refine wr_callV (As := [.int 1]) (rest := []) ⟨hx, hb, hml, hown, hts⟩ (c_X5_fails l D 1) (cwV 1 hts gX5_append_X5_fails rfl rfl rfl (by decide +kernel) ⟨by decide, by decide⟩) hK hN hZ hP hD hS [0, 1, 2, 3, 4, 5, 6, 7] [0] rfl (by decide) rfl (q0 := 0) rfl rfl rfl hl.1 rfl (Nat.le_of_ble_eq_true rfl) ⟨by decide, by decide⟩ dX5_append_18 (fun v9 w9 H locs hp9 hP hD hS => ?_)
    obtain ⟨rfl, rfl⟩ := hp9
    have hP : va_P D vwCl (MdW om xS xV xB xT xA xP xR cI 1 mS mSv (nI q) mBf (nI b) mTl mAl mPl kBs kLf kAt kWl mRd kRm hsh) H := hP
    have hD : va_D (wr_in (MdW om xS xV xB xT xA xP xR cI thr mS mSv (nI q) mBf (nI b) mTl mAl mPl kBs kLf kAt kWl mRd kRm hsh)) (MdW om xS xV xB xT xA xP xR cI 1 mS mSv (nI q) mBf (nI b) mTl mAl mPl kBs kLf kAt kWl mRd kRm hsh) := hD
    refine W.eq (g2 := F0 m 21 ls [.int 0]) rfl ?_
    exact wr_iret hx hb hr hlocks hP hS rfl dX5_append_21 (by exact Or.inl ⟨c_13, rfl, rfl⟩)
set_option maxHeartbeats 4000000 in
set_option maxRecDepth 100000 in
theorem c_X5_clearBuffer (l : Launch) (D : va_G) {om xS xV xB xT xA xP xR : Nat} {cI : ClassId} {thr kBs kLf kAt kWl kRm : Int32} {hsh : Int64} {mS mSv mBf mTl mAl mPl mRd : Nat → Int32} {n : Nat} {P : Nat → Nat → Int32} {q : Nat} (hq6 : q ≤ 6) (hn8 : n ≤ 8) (hQ : mdS n P mS) (hbk : bd_ok n P) {b : Nat} (hb60 : b ≤ 60) : wr_M l yX5_clearBuffer wsX5_clearBuffer ({ frames := 0, cells := 0, slots := 0, locals := 0 } : Room) D (MdW om xS xV xB xT xA xP xR cI thr mS mSv (nI q) mBf (nI b) mTl mAl mPl kBs kLf kAt kWl mRd kRm hsh) [(cI, .int)] [.ref om] (fun v w9 => v = some (.int (nI b)) ∧ w9 = MdW om xS xV xB xT xA xP xR cI 0 mS mSv (nI q) mBf 0 mTl mAl mPl kBs kLf kAt kWl mRd kRm hsh) := by
  refine wr_of (cc := cX5_clearBuffer) (maxL := 2) (ret := some .int) (by decide) rfl (Nat.le_of_ble_eq_true rfl) ?_
  intro p e s m below meth c hx hb hr hml hts hown hlocks hP hK hN hZ hD hS ls hl
  have hown : s.vm.findClass RX5 = some m.cls := hown
  have hl : lv_has ls 2 [(0, .ref om)] := hl
  have hinX5 : ∀ w ∈ u_ws RX5 TX5 16, w ∈ wsX5_clearBuffer := by decide +kernel
  have hw31 := hts (.fieldLink RX5 31 "CornerLabelsModel" "thrown" "I") (by decide +kernel)
  have hw154 := hts (.fieldLink RX5 154 "CornerLabelsModel" "length" "I") (by decide +kernel)
  suffices body : ∀ (H : Heap) (locs : List Loc), va_P D vwCl (MdW om xS xV xB xT xA xP xR cI thr mS mSv (nI q) mBf (nI b) mTl mAl mPl kBs kLf kAt kWl mRd kRm hsh) H → va_D (wr_in (MdW om xS xV xB xT xA xP xR cI thr mS mSv (nI q) mBf (nI b) mTl mAl mPl kBs kLf kAt kWl mRd kRm hsh)) (MdW om xS xV xB xT xA xP xR cI thr mS mSv (nI q) mBf (nI b) mTl mAl mPl kBs kLf kAt kWl mRd kRm hsh) → va_S (wr_in (MdW om xS xV xB xT xA xP xR cI thr mS mSv (nI q) mBf (nI b) mTl mAl mPl kBs kLf kAt kWl mRd kRm hsh)) s.heap H locs → wr_W p l e wsX5_clearBuffer ({ frames := 0, cells := 0, slots := 0, locals := 0 } : Room) s m [.ref om] below meth c D (MdW om xS xV xB xT xA xP xR cI thr mS mSv (nI q) mBf (nI b) mTl mAl mPl kBs kLf kAt kWl mRd kRm hsh) (fun v w9 => v = some (.int (nI b)) ∧ w9 = MdW om xS xV xB xT xA xP xR cI 0 mS mSv (nI q) mBf 0 mTl mAl mPl kBs kLf kAt kWl mRd kRm hsh) H locs (F0 m 0 ls []) from body _ _ hP hD hS
  clear hP hD hS
  intro H locs hP hD hS
  refine lv_aload_n hx hb dX5_clearBuffer_0 rfl (lv_at hl 0 rfl) ?_
  refine lv_iconst (v := 0) hx hb dX5_clearBuffer_1 (by decide) ?_
  refine va_put (D := D) (ci := 5) (v := .int 0) (ty := .int) (C := RX5) (T := TX5) (N := 16) hx hb hts hinX5 tyX5 tyX5_ok nmX5 hown hK hP hD hS 0 rfl rfl 0 (by decide) hw31 (fun _ h9 => h9) rfl (by decide +kernel) rfl rfl (Nat.le_of_ble_eq_true rfl) dX5_clearBuffer_2 (fun H locs hP hD hS => ?_)
  have hP : va_P D vwCl (MdW om xS xV xB xT xA xP xR cI 0 mS mSv (nI q) mBf (nI b) mTl mAl mPl kBs kLf kAt kWl mRd kRm hsh) H := hP
  have hD : va_D (wr_in (MdW om xS xV xB xT xA xP xR cI thr mS mSv (nI q) mBf (nI b) mTl mAl mPl kBs kLf kAt kWl mRd kRm hsh)) (MdW om xS xV xB xT xA xP xR cI 0 mS mSv (nI q) mBf (nI b) mTl mAl mPl kBs kLf kAt kWl mRd kRm hsh) := hD
  refine lv_aload_n hx hb dX5_clearBuffer_5 rfl (lv_at hl 0 rfl) ?_
  refine va_get (D := D) (ci := 5) (v := .int (nI b)) (C := RX5) (T := TX5) (N := 16) hx hb hts hinX5 hown hK hP 0 rfl rfl 5 (by decide) hw154 (fun _ h9 => h9) rfl dX5_clearBuffer_6 ?_
  refine lv_istore_n (lv' := [(1, .int (nI b)), (0, .ref om)]) hx hb dX5_clearBuffer_9 rfl hl (by decide) rfl (fun ls hl => ?_)
  refine lv_aload_n hx hb dX5_clearBuffer_10 rfl (lv_at hl 1 rfl) ?_
  refine lv_iconst (v := 0) hx hb dX5_clearBuffer_11 (by decide) ?_
  refine va_put (D := D) (ci := 5) (v := .int 0) (ty := .int) (C := RX5) (T := TX5) (N := 16) hx hb hts hinX5 tyX5 tyX5_ok nmX5 hown hK hP hD hS 0 rfl rfl 5 (by decide) hw154 (fun _ h9 => h9) rfl (by decide +kernel) rfl rfl (Nat.le_of_ble_eq_true rfl) dX5_clearBuffer_12 (fun H locs hP hD hS => ?_)
  have hP : va_P D vwCl (MdW om xS xV xB xT xA xP xR cI 0 mS mSv (nI q) mBf 0 mTl mAl mPl kBs kLf kAt kWl mRd kRm hsh) H := hP
  have hD : va_D (wr_in (MdW om xS xV xB xT xA xP xR cI thr mS mSv (nI q) mBf (nI b) mTl mAl mPl kBs kLf kAt kWl mRd kRm hsh)) (MdW om xS xV xB xT xA xP xR cI 0 mS mSv (nI q) mBf 0 mTl mAl mPl kBs kLf kAt kWl mRd kRm hsh) := hD
  refine lv_iload_n hx hb dX5_clearBuffer_15 rfl (lv_at hl 0 rfl) ?_
  exact wr_iret hx hb hr hlocks hP hS rfl dX5_clearBuffer_16 (by exact ⟨rfl, rfl⟩)
set_option maxHeartbeats 4000000 in
set_option maxRecDepth 100000 in
theorem c_X5_undo (l : Launch) (D : va_G) {om xS xV xB xT xA xP xR : Nat} {cI : ClassId} {thr kLn kBs kLf kAt kWl kRm : Int32} {hsh : Int64} {mS mSv mBf mTl mAl mPl mRd : Nat → Int32} {n : Nat} {P : Nat → Nat → Int32} {q : Nat} (hq6 : q ≤ 6) (hn8 : n ≤ 8) (hQ : mdS n P mS) (hbk : bd_ok n P) : wr_M l yX5_undo wsX5_undo ({ frames := 1, cells := 0, slots := 0, locals := 21 } : Room) D (MdW om xS xV xB xT xA xP xR cI thr mS mSv (nI q) mBf kLn mTl mAl mPl kBs kLf kAt kWl mRd kRm hsh) [(cI, .int)] [.ref om] (fun v w9 => (q = 0 ∧ v = some (.int 0) ∧ w9 = MdW om xS xV xB xT xA xP xR cI 1 mS mSv (nI q) mBf kLn mTl mAl mPl kBs kLf kAt kWl mRd kRm hsh) ∨ (∃ r, q = r + 1 ∧ v = some (.int (nI r)) ∧ ∃ S9 : Nat → Int32, (∀ z, z < 49 → S9 z = mSv (49 * r + z)) ∧ w9 = MdW om xS xV xB xT xA xP xR cI 0 S9 mSv (nI r) mBf kLn mTl mAl mPl kBs kLf kAt kWl mRd kRm hsh)) := by
  refine wr_of (cc := cX5_undo) (maxL := 2) (ret := some .int) (by decide) rfl (Nat.le_of_ble_eq_true rfl) ?_
  intro p e s m below meth c hx hb hr hml hts hown hlocks hP hK hN hZ hD hS ls hl
  have hown : s.vm.findClass RX5 = some m.cls := hown
  have hl : lv_has ls 2 [(0, .ref om)] := hl
  have hinX5 : ∀ w ∈ u_ws RX5 TX5 16, w ∈ wsX5_undo := by decide +kernel
  have hw31 := hts (.fieldLink RX5 31 "CornerLabelsModel" "thrown" "I") (by decide +kernel)
  have hw43 := hts (.fieldLink RX5 43 "CornerLabelsModel" "savedMany" "I") (by decide +kernel)
  have hw7 := hts (.fieldLink RX5 7 "CornerLabelsModel" "s" "[I") (by decide +kernel)
  have hw13 := hts (.fieldLink RX5 13 "CornerLabelsModel" "saved" "[I") (by decide +kernel)
  suffices body : ∀ (H : Heap) (locs : List Loc), va_P D vwCl (MdW om xS xV xB xT xA xP xR cI thr mS mSv (nI q) mBf kLn mTl mAl mPl kBs kLf kAt kWl mRd kRm hsh) H → va_D (wr_in (MdW om xS xV xB xT xA xP xR cI thr mS mSv (nI q) mBf kLn mTl mAl mPl kBs kLf kAt kWl mRd kRm hsh)) (MdW om xS xV xB xT xA xP xR cI thr mS mSv (nI q) mBf kLn mTl mAl mPl kBs kLf kAt kWl mRd kRm hsh) → va_S (wr_in (MdW om xS xV xB xT xA xP xR cI thr mS mSv (nI q) mBf kLn mTl mAl mPl kBs kLf kAt kWl mRd kRm hsh)) s.heap H locs → wr_W p l e wsX5_undo ({ frames := 1, cells := 0, slots := 0, locals := 21 } : Room) s m [.ref om] below meth c D (MdW om xS xV xB xT xA xP xR cI thr mS mSv (nI q) mBf kLn mTl mAl mPl kBs kLf kAt kWl mRd kRm hsh) (fun v w9 => (q = 0 ∧ v = some (.int 0) ∧ w9 = MdW om xS xV xB xT xA xP xR cI 1 mS mSv (nI q) mBf kLn mTl mAl mPl kBs kLf kAt kWl mRd kRm hsh) ∨ (∃ r, q = r + 1 ∧ v = some (.int (nI r)) ∧ ∃ S9 : Nat → Int32, (∀ z, z < 49 → S9 z = mSv (49 * r + z)) ∧ w9 = MdW om xS xV xB xT xA xP xR cI 0 S9 mSv (nI r) mBf kLn mTl mAl mPl kBs kLf kAt kWl mRd kRm hsh)) H locs (F0 m 0 ls []) from body _ _ hP hD hS
  clear hP hD hS
  intro H locs hP hD hS
  refine lv_aload_n hx hb dX5_undo_0 rfl (lv_at hl 0 rfl) ?_
  refine lv_iconst (v := 0) hx hb dX5_undo_1 (by decide) ?_
  refine va_put (D := D) (ci := 5) (v := .int 0) (ty := .int) (C := RX5) (T := TX5) (N := 16) hx hb hts hinX5 tyX5 tyX5_ok nmX5 hown hK hP hD hS 0 rfl rfl 0 (by decide) hw31 (fun _ h9 => h9) rfl (by decide +kernel) rfl rfl (Nat.le_of_ble_eq_true rfl) dX5_undo_2 (fun H locs hP hD hS => ?_)
  have hP : va_P D vwCl (MdW om xS xV xB xT xA xP xR cI 0 mS mSv (nI q) mBf kLn mTl mAl mPl kBs kLf kAt kWl mRd kRm hsh) H := hP
  have hD : va_D (wr_in (MdW om xS xV xB xT xA xP xR cI thr mS mSv (nI q) mBf kLn mTl mAl mPl kBs kLf kAt kWl mRd kRm hsh)) (MdW om xS xV xB xT xA xP xR cI 0 mS mSv (nI q) mBf kLn mTl mAl mPl kBs kLf kAt kWl mRd kRm hsh) := hD
  refine lv_aload_n hx hb dX5_undo_5 rfl (lv_at hl 0 rfl) ?_
  refine va_get (D := D) (ci := 5) (v := .int (nI q)) (C := RX5) (T := TX5) (N := 16) hx hb hts hinX5 hown hK hP 0 rfl rfl 3 (by decide) hw43 (fun _ h9 => h9) rfl dX5_undo_6 ?_
  refine lv_if_ne (tgt := 18) hx hb dX5_undo_9 (by decide) (fun c_9 => ?_) (fun c_9 => ?_)
  · have c_9n := nI0_ne c_9
    obtain ⟨r, er⟩ : ∃ r, q = r + 1 := ⟨q - 1, by have := mq_pos c_9; omega⟩
    refine lv_aload_n hx hb dX5_undo_18 rfl (lv_at hl 0 rfl) ?_
    refine lv_dup hx hb dX5_undo_19 rfl ?_
    refine va_get (D := D) (ci := 5) (v := .int (nI q)) (C := RX5) (T := TX5) (N := 16) hx hb hts hinX5 hown hK hP 0 rfl rfl 3 (by decide) hw43 (fun _ h9 => h9) rfl dX5_undo_20 ?_
    refine lv_iconst (v := 1) hx hb dX5_undo_23 (by decide) ?_
    refine lv_isub hx hb dX5_undo_24 ?_
    refine lv_asi (y := nI r) (by rw [er]; exact nI_pred r) ?_
    refine va_put (D := D) (ci := 5) (v := .int (nI r)) (ty := .int) (C := RX5) (T := TX5) (N := 16) hx hb hts hinX5 tyX5 tyX5_ok nmX5 hown hK hP hD hS 0 rfl rfl 3 (by decide) hw43 (fun _ h9 => h9) rfl (by decide +kernel) rfl rfl (Nat.le_of_ble_eq_true rfl) dX5_undo_25 (fun H locs hP hD hS => ?_)
    have hP : va_P D vwCl (MdW om xS xV xB xT xA xP xR cI 0 mS mSv (nI r) mBf kLn mTl mAl mPl kBs kLf kAt kWl mRd kRm hsh) H := hP
    have hD : va_D (wr_in (MdW om xS xV xB xT xA xP xR cI thr mS mSv (nI q) mBf kLn mTl mAl mPl kBs kLf kAt kWl mRd kRm hsh)) (MdW om xS xV xB xT xA xP xR cI 0 mS mSv (nI r) mBf kLn mTl mAl mPl kBs kLf kAt kWl mRd kRm hsh) := hD
    refine lv_iconst (v := 0) hx hb dX5_undo_28 (by decide) ?_
    refine lv_istore_n (lv' := [(1, .int 0), (0, .ref om)]) hx hb dX5_undo_29 rfl hl (by decide) rfl (fun ls hl => ?_)
    suffices loop30 : ∀ (k30 k : Nat) (S1 : Nat → Int32) (H : Heap) (locs : List Loc) (ls : Array Slot), k ≤ 49 → 49 + 1 ≤ k + k30 → (∀ z, z < k → S1 z = mSv (49 * r + z)) → va_P D vwCl (MdW om xS xV xB xT xA xP xR cI 0 S1 mSv (nI r) mBf kLn mTl mAl mPl kBs kLf kAt kWl mRd kRm hsh) H → va_D (wr_in (MdW om xS xV xB xT xA xP xR cI thr mS mSv (nI q) mBf kLn mTl mAl mPl kBs kLf kAt kWl mRd kRm hsh)) (MdW om xS xV xB xT xA xP xR cI 0 S1 mSv (nI r) mBf kLn mTl mAl mPl kBs kLf kAt kWl mRd kRm hsh) → va_S (wr_in (MdW om xS xV xB xT xA xP xR cI thr mS mSv (nI q) mBf kLn mTl mAl mPl kBs kLf kAt kWl mRd kRm hsh)) s.heap H locs → lv_has ls 2 [(0, .ref om), (1, .int (nI k))] → wr_W p l e wsX5_undo ({ frames := 1, cells := 0, slots := 0, locals := 21 } : Room) s m [.ref om] below meth c D (MdW om xS xV xB xT xA xP xR cI thr mS mSv (nI q) mBf kLn mTl mAl mPl kBs kLf kAt kWl mRd kRm hsh) (fun v w9 => (q = 0 ∧ v = some (.int 0) ∧ w9 = MdW om xS xV xB xT xA xP xR cI 1 mS mSv (nI q) mBf kLn mTl mAl mPl kBs kLf kAt kWl mRd kRm hsh) ∨ (∃ r, q = r + 1 ∧ v = some (.int (nI r)) ∧ ∃ S9 : Nat → Int32, (∀ z, z < 49 → S9 z = mSv (49 * r + z)) ∧ w9 = MdW om xS xV xB xT xA xP xR cI 0 S9 mSv (nI r) mBf kLn mTl mAl mPl kBs kLf kAt kWl mRd kRm hsh)) H locs (F0 m 30 ls []) from
      loop30 (49 + 1) 0 mS H locs ls (by omega) (by omega) (by exact fun z hz => absurd hz (by omega)) hP hD hS (lv_sub hl [1, 0] rfl)
    intro k30
    induction k30 with
    | zero => intro k S1 H locs ls h1 h2; exact absurd h2 (by omega)
    | succ k30 ih30 =>
      intro k S1 H locs ls hle30 hlt30 inv30 hP hD hS hl
      refine lv_iload_n hx hb dX5_undo_30 rfl (lv_at hl 1 rfl) ?_
      refine lv_bipush (v := 49) hx hb dX5_undo_31 (by decide) ?_
      refine rd_icmp_ge_n (a := k) (b := 49) (tgt := 62) (by omega) (by omega) hx hb dX5_undo_33 (by decide) (fun c_33 => ?_) (fun c_33 => ?_)
      · have c_33n := Nat.not_lt.mpr c_33
        refine lv_aload_n hx hb dX5_undo_62 rfl (lv_at hl 0 rfl) ?_
        refine va_get (D := D) (ci := 5) (v := .int (nI r)) (C := RX5) (T := TX5) (N := 16) hx hb hts hinX5 hown hK hP 0 rfl rfl 3 (by decide) hw43 (fun _ h9 => h9) rfl dX5_undo_63 ?_
        exact wr_iret hx hb hr hlocks hP hS rfl dX5_undo_66 (by exact Or.inr ⟨r, er, rfl, S1, (fun z hz => inv30 z (by omega)), rfl⟩)
      · have c_33n := Nat.not_le.mpr c_33
        refine lv_aload_n hx hb dX5_undo_36 rfl (lv_at hl 0 rfl) ?_
        refine va_get (D := D) (ci := 5) (v := .ref xS) (C := RX5) (T := TX5) (N := 16) hx hb hts hinX5 hown hK hP 0 rfl rfl 1 (by decide) hw7 (fun _ h9 => h9) rfl dX5_undo_37 ?_
        refine lv_iload_n hx hb dX5_undo_40 rfl (lv_at hl 1 rfl) ?_
        refine lv_aload_n hx hb dX5_undo_41 rfl (lv_at hl 0 rfl) ?_
        refine va_get (D := D) (ci := 5) (v := .ref xV) (C := RX5) (T := TX5) (N := 16) hx hb hts hinX5 hown hK hP 0 rfl rfl 2 (by decide) hw13 (fun _ h9 => h9) rfl dX5_undo_42 ?_
        refine lv_bipush (v := 49) hx hb dX5_undo_45 (by decide) ?_
        refine lv_aload_n hx hb dX5_undo_47 rfl (lv_at hl 0 rfl) ?_
        refine va_get (D := D) (ci := 5) (v := .int (nI r)) (C := RX5) (T := TX5) (N := 16) hx hb hts hinX5 hown hK hP 0 rfl rfl 3 (by decide) hw43 (fun _ h9 => h9) rfl dX5_undo_48 ?_
        refine lv_imul hx hb dX5_undo_51 ?_
        refine lv_asi (y := nI (49 * r)) (pk_mul 49 r) ?_
        refine lv_iload_n hx hb dX5_undo_52 rfl (lv_at hl 1 rfl) ?_
        refine lv_iadd hx hb dX5_undo_53 ?_
        refine lv_asi (y := nI ((49 * r) + k)) (nI_add (49 * r) k) ?_
        refine rd_ald (q0 := 2) (t0 := 0) (j := (49 * r) + k) (v := mSv ((49 * r) + k)) hx hb hK hP rfl rfl (rfl) (by omega) (by decide) (rfl) dX5_undo_54 ?_
        refine wr_ast (q0 := 1) (t0 := 0) (j := k) hx hb hK hP hD hS rfl rfl (rfl) (by omega) (by decide) dX5_undo_55 (fun H locs hP hD hS => ?_)
        obtain ⟨mS_55, emS_55⟩ : ∃ zz9 : Nat → Int32, zz9 = upd S1 k (mSv ((49 * r) + k)) := ⟨_, rfl⟩
        rw [← emS_55] at hP hD
        have hP : va_P D vwCl (MdW om xS xV xB xT xA xP xR cI 0 mS_55 mSv (nI r) mBf kLn mTl mAl mPl kBs kLf kAt kWl mRd kRm hsh) H := hP
        have hD : va_D (wr_in (MdW om xS xV xB xT xA xP xR cI thr mS mSv (nI q) mBf kLn mTl mAl mPl kBs kLf kAt kWl mRd kRm hsh)) (MdW om xS xV xB xT xA xP xR cI 0 mS_55 mSv (nI r) mBf kLn mTl mAl mPl kBs kLf kAt kWl mRd kRm hsh) := hD
        refine lv_iinc (v := nI (k + 1)) (lv' := [(1, .int (nI (k + 1))), (0, .ref om)]) hx hb dX5_undo_56 hl (k := 1) rfl (nI_add k 1) (by decide) rfl (fun ls hl => ?_)
        refine lv_goto (tgt := 30) hx hb dX5_undo_59 (by decide) ?_
        exact ih30 (k + 1) mS_55 H locs ls (by omega) (by omega) (by exact und_step inv30 emS_55) hP hD hS (lv_sub hl [1, 0] rfl)
  · have c_9n := nI0_eq (by omega) c_9
    refine lv_aload_n hx hb dX5_undo_12 rfl (lv_at hl 0 rfl) ?_
    refine lv_iconst (v := 1) hx hb dX5_undo_13 (by decide) ?_
    refine wr_callV (As := [.int 1]) (rest := []) ⟨hx, hb, hml, hown, hts⟩ (c_X5_fails l D 1) (cwV 1 hts gX5_undo_X5_fails rfl rfl rfl (by decide +kernel) ⟨by decide, by decide⟩) hK hN hZ hP hD hS [0, 1, 2, 3, 4, 5, 6, 7] [0] rfl (by decide) rfl (q0 := 0) rfl rfl rfl hl.1 rfl (Nat.le_of_ble_eq_true rfl) ⟨by decide, by decide⟩ dX5_undo_14 (fun v9 w9 H locs hp9 hP hD hS => ?_)
    obtain ⟨rfl, rfl⟩ := hp9
    have hP : va_P D vwCl (MdW om xS xV xB xT xA xP xR cI 1 mS mSv (nI q) mBf kLn mTl mAl mPl kBs kLf kAt kWl mRd kRm hsh) H := hP
    have hD : va_D (wr_in (MdW om xS xV xB xT xA xP xR cI thr mS mSv (nI q) mBf kLn mTl mAl mPl kBs kLf kAt kWl mRd kRm hsh)) (MdW om xS xV xB xT xA xP xR cI 1 mS mSv (nI q) mBf kLn mTl mAl mPl kBs kLf kAt kWl mRd kRm hsh) := hD
    refine W.eq (g2 := F0 m 17 ls [.int 0]) rfl ?_
    exact wr_iret hx hb hr hlocks hP hS rfl dX5_undo_17 (by exact Or.inl ⟨mq_zero hq6 c_9, rfl, rfl⟩)
