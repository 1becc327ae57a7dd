set_option maxHeartbeats 4000000 in
set_option maxRecDepth 100000 in
theorem c_X5_comes (l : Launch) (D : va_G) {om xS xV xB xT xA xP xR : Nat} {cI : ClassId} {thr kLn kBs kLf kAt kWl kRm : Int32} {hsh : Int64} {mS mSv mBf mTl mAl mPl mRd : Nat → Int32} {n : Nat} {P : Nat → Nat → Int32} {q : Nat} (hq6 : q ≤ 6) (hn8 : n < 8) (hQ : mdS n P mS) (hbk : bd_ok n P) (x y wd hg wt : Int32) : wr_M l yX5_comes wsX5_comes ({ frames := 4, cells := 0, slots := 0, locals := 90 } : Room) D (MdW om xS xV xB xT xA xP xR cI thr mS mSv (nI q) mBf kLn mTl mAl mPl kBs kLf kAt kWl mRd kRm hsh) [(cI, .int)] [.ref om, .int x, .int y, .int wd, .int hg, .int wt] (fun v w9 => v = none ∧ ∃ S9 : Nat → Int32, mdS (n + 1) (mIns n P x y wd hg wt) S9 ∧ w9 = MdW om xS xV xB xT xA xP xR cI thr S9 mSv (nI q) mBf kLn mTl mAl mPl kBs kLf kAt kWl mRd kRm hsh) := by
  refine wr_of (cc := cX5_comes) (maxL := 7) (ret := none) (by decide) rfl (Nat.le_of_ble_eq_true rfl) ?_
  intro p e s m below meth c hx hb hr hml hts hown hlocks hP hK hN hZ hD hS ls hl
  have hown : s.vm.findClass RX5 = some m.cls := hown
  have hl : lv_has ls 7 [(0, .ref om), (1, .int x), (2, .int y), (3, .int wd), (4, .int hg), (5, .int wt)] := hl
  have hinX5 : ∀ w ∈ u_ws RX5 TX5 16, w ∈ wsX5_comes := by decide +kernel
  have hw7 := hts (.fieldLink RX5 7 "CornerLabelsModel" "s" "[I") (by decide +kernel)
  suffices body : ∀ (H : Heap) (locs : List Loc), va_P D vwCl (MdW om xS xV xB xT xA xP xR cI thr mS mSv (nI q) mBf kLn mTl mAl mPl kBs kLf kAt kWl mRd kRm hsh) H → va_D (wr_in (MdW om xS xV xB xT xA xP xR cI thr mS mSv (nI q) mBf kLn mTl mAl mPl kBs kLf kAt kWl mRd kRm hsh)) (MdW om xS xV xB xT xA xP xR cI thr mS mSv (nI q) mBf kLn mTl mAl mPl kBs kLf kAt kWl mRd kRm hsh) → va_S (wr_in (MdW om xS xV xB xT xA xP xR cI thr mS mSv (nI q) mBf kLn mTl mAl mPl kBs kLf kAt kWl mRd kRm hsh)) s.heap H locs → wr_W p l e wsX5_comes ({ frames := 4, cells := 0, slots := 0, locals := 90 } : Room) s m [.ref om, .int x, .int y, .int wd, .int hg, .int wt] below meth c D (MdW om xS xV xB xT xA xP xR cI thr mS mSv (nI q) mBf kLn mTl mAl mPl kBs kLf kAt kWl mRd kRm hsh) (fun v w9 => v = none ∧ ∃ S9 : Nat → Int32, mdS (n + 1) (mIns n P x y wd hg wt) S9 ∧ w9 = MdW om xS xV xB xT xA xP xR cI thr S9 mSv (nI q) mBf kLn mTl mAl mPl kBs kLf kAt kWl mRd kRm hsh) H locs (F0 m 0 ls []) from body _ _ hP hD hS
  clear hP hD hS
  intro H locs hP hD hS
  refine lv_iconst (v := 0) hx hb dX5_comes_0 (by decide) ?_
  refine lv_istore (lv' := [(6, .int 0), (0, .ref om), (1, .int x), (2, .int y), (3, .int wd), (4, .int hg), (5, .int wt)]) hx hb dX5_comes_1 hl (by decide) rfl (fun ls hl => ?_)
  suffices loop3 : ∀ (k3 i : Nat) (S1 : Nat → Int32) (H : Heap) (locs : List Loc) (ls : Array Slot), i ≤ n → n + 1 ≤ i + k3 → (mdS n (mDr P x y i) S1) → va_P D vwCl (MdW om xS xV xB xT xA xP xR cI thr S1 mSv (nI q) mBf kLn mTl mAl mPl kBs kLf kAt kWl mRd kRm hsh) H → va_D (wr_in (MdW om xS xV xB xT xA xP xR cI thr mS mSv (nI q) mBf kLn mTl mAl mPl kBs kLf kAt kWl mRd kRm hsh)) (MdW om xS xV xB xT xA xP xR cI thr S1 mSv (nI q) mBf kLn mTl mAl mPl kBs kLf kAt kWl mRd kRm hsh) → va_S (wr_in (MdW om xS xV xB xT xA xP xR cI thr mS mSv (nI q) mBf kLn mTl mAl mPl kBs kLf kAt kWl mRd kRm hsh)) s.heap H locs → lv_has ls 7 [(0, .ref om), (1, .int x), (2, .int y), (3, .int wd), (4, .int hg), (5, .int wt), (6, .int (nI i))] → wr_W p l e wsX5_comes ({ frames := 4, cells := 0, slots := 0, locals := 90 } : Room) s m [.ref om, .int x, .int y, .int wd, .int hg, .int wt] below meth c D (MdW om xS xV xB xT xA xP xR cI thr mS mSv (nI q) mBf kLn mTl mAl mPl kBs kLf kAt kWl mRd kRm hsh) (fun v w9 => v = none ∧ ∃ S9 : Nat → Int32, mdS (n + 1) (mIns n P x y wd hg wt) S9 ∧ w9 = MdW om xS xV xB xT xA xP xR cI thr S9 mSv (nI q) mBf kLn mTl mAl mPl kBs kLf kAt kWl mRd kRm hsh) H locs (F0 m 3 ls []) from
    loop3 (n + 1) 0 mS H locs ls (by omega) (by omega) (by exact mDr_init hQ) hP hD hS (lv_sub hl [1, 2, 3, 4, 5, 6, 0] rfl)
  intro k3
  induction k3 with
  | zero => intro i S1 H locs ls h1 h2; exact absurd h2 (by omega)
  | succ k3 ih3 =>
    intro i S1 H locs ls hle3 hlt3 inv3 hP hD hS hl
    refine lv_iload hx hb dX5_comes_3 (lv_at hl 6 rfl) ?_
    refine lv_aload_n hx hb dX5_comes_5 rfl (lv_at hl 0 rfl) ?_
    refine va_get (D := D) (ci := 5) (v := .ref xS) (C := RX5) (T := TX5) (N := 16) hx hb hts hinX5 hown hK hP 0 rfl rfl 1 (by decide) hw7 (fun _ h9 => h9) rfl dX5_comes_6 ?_
    refine lv_iconst (v := 0) hx hb dX5_comes_9 (by decide) ?_
    refine rd_ald (q0 := 1) (t0 := 0) (j := 0) (v := nI n) hx hb hK hP rfl rfl (rfl) (by omega) (by decide) (inv3.1) dX5_comes_10 ?_
    refine rd_icmp_ge_n (a := i) (b := n) (tgt := 54) (by omega) (by omega) hx hb dX5_comes_11 (by decide) (fun c_11 => ?_) (fun c_11 => ?_)
    · have c_11n := Nat.not_lt.mpr c_11
      refine lv_iconst (v := 1) hx hb dX5_comes_54 (by decide) ?_
      refine lv_bipush (v := 6) hx hb dX5_comes_55 (by decide) ?_
      refine lv_aload_n hx hb dX5_comes_57 rfl (lv_at hl 0 rfl) ?_
      refine va_get (D := D) (ci := 5) (v := .ref xS) (C := RX5) (T := TX5) (N := 16) hx hb hts hinX5 hown hK hP 0 rfl rfl 1 (by decide) hw7 (fun _ h9 => h9) rfl dX5_comes_58 ?_
      refine lv_iconst (v := 0) hx hb dX5_comes_61 (by decide) ?_
      refine rd_ald (q0 := 1) (t0 := 0) (j := 0) (v := nI n) hx hb hK hP rfl rfl (rfl) (by omega) (by decide) (inv3.1) dX5_comes_62 ?_
      refine lv_imul hx hb dX5_comes_63 ?_
      refine lv_asi (y := nI (6 * n)) (pk_mul 6 n) ?_
      refine lv_iadd hx hb dX5_comes_64 ?_
      refine lv_asi (y := nI (1 + (6 * n))) (nI_add 1 (6 * n)) ?_
      refine lv_istore (lv' := [(6, .int (nI (1 + (6 * n)))), (0, .ref om), (1, .int x), (2, .int y), (3, .int wd), (4, .int hg), (5, .int wt)]) hx hb dX5_comes_65 hl (by decide) rfl (fun ls hl => ?_)
      refine lv_aload_n hx hb dX5_comes_67 rfl (lv_at hl 1 rfl) ?_
      refine va_get (D := D) (ci := 5) (v := .ref xS) (C := RX5) (T := TX5) (N := 16) hx hb hts hinX5 hown hK hP 0 rfl rfl 1 (by decide) hw7 (fun _ h9 => h9) rfl dX5_comes_68 ?_
      refine lv_iload hx hb dX5_comes_71 (lv_at hl 0 rfl) ?_
      refine lv_iconst (v := 0) hx hb dX5_comes_73 (by decide) ?_
      refine lv_iadd hx hb dX5_comes_74 ?_
      refine lv_asi (y := nI ((1 + (6 * n)) + 0)) (nI_add (1 + (6 * n)) 0) ?_
      refine lv_iload_n hx hb dX5_comes_75 rfl (lv_at hl 2 rfl) ?_
      refine wr_ast (q0 := 1) (t0 := 0) (j := (1 + (6 * n)) + 0) hx hb hK hP hD hS rfl rfl (rfl) (by omega) (by decide) dX5_comes_76 (fun H locs hP hD hS => ?_)
      obtain ⟨mS_76, emS_76⟩ : ∃ zz9 : Nat → Int32, zz9 = upd S1 ((1 + (6 * n)) + 0) x := ⟨_, rfl⟩
      rw [← emS_76] at hP hD
      have hP : va_P D vwCl (MdW om xS xV xB xT xA xP xR cI thr mS_76 mSv (nI q) mBf kLn mTl mAl mPl kBs kLf kAt kWl mRd kRm hsh) H := hP
      have hD : va_D (wr_in (MdW om xS xV xB xT xA xP xR cI thr mS mSv (nI q) mBf kLn mTl mAl mPl kBs kLf kAt kWl mRd kRm hsh)) (MdW om xS xV xB xT xA xP xR cI thr mS_76 mSv (nI q) mBf kLn mTl mAl mPl kBs kLf kAt kWl mRd kRm hsh) := hD
      refine lv_aload_n hx hb dX5_comes_77 rfl (lv_at hl 1 rfl) ?_
      refine va_get (D := D) (ci := 5) (v := .ref xS) (C := RX5) (T := TX5) (N := 16) hx hb hts hinX5 hown hK hP 0 rfl rfl 1 (by decide) hw7 (fun _ h9 => h9) rfl dX5_comes_78 ?_
      refine lv_iload hx hb dX5_comes_81 (lv_at hl 0 rfl) ?_
      refine lv_iconst (v := 1) hx hb dX5_comes_83 (by decide) ?_
      refine lv_iadd hx hb dX5_comes_84 ?_
      refine lv_asi (y := nI ((1 + (6 * n)) + 1)) (nI_add (1 + (6 * n)) 1) ?_
      refine lv_iload_n hx hb dX5_comes_85 rfl (lv_at hl 3 rfl) ?_
      refine wr_ast (q0 := 1) (t0 := 0) (j := (1 + (6 * n)) + 1) hx hb hK hP hD hS rfl rfl (rfl) (by omega) (by decide) dX5_comes_86 (fun H locs hP hD hS => ?_)
      obtain ⟨mS_86, emS_86⟩ : ∃ zz9 : Nat → Int32, zz9 = upd mS_76 ((1 + (6 * n)) + 1) y := ⟨_, rfl⟩
      rw [← emS_86] at hP hD
      have hP : va_P D vwCl (MdW om xS xV xB xT xA xP xR cI thr mS_86 mSv (nI q) mBf kLn mTl mAl mPl kBs kLf kAt kWl mRd kRm hsh) H := hP
      have hD : va_D (wr_in (MdW om xS xV xB xT xA xP xR cI thr mS mSv (nI q) mBf kLn mTl mAl mPl kBs kLf kAt kWl mRd kRm hsh)) (MdW om xS xV xB xT xA xP xR cI thr mS_86 mSv (nI q) mBf kLn mTl mAl mPl kBs kLf kAt kWl mRd kRm hsh) := hD
      refine lv_aload_n hx hb dX5_comes_87 rfl (lv_at hl 1 rfl) ?_
      refine va_get (D := D) (ci := 5) (v := .ref xS) (C := RX5) (T := TX5) (N := 16) hx hb hts hinX5 hown hK hP 0 rfl rfl 1 (by decide) hw7 (fun _ h9 => h9) rfl dX5_comes_88 ?_
      refine lv_iload hx hb dX5_comes_91 (lv_at hl 0 rfl) ?_
      refine lv_iconst (v := 2) hx hb dX5_comes_93 (by decide) ?_
      refine lv_iadd hx hb dX5_comes_94 ?_
      refine lv_asi (y := nI ((1 + (6 * n)) + 2)) (nI_add (1 + (6 * n)) 2) ?_
      refine lv_iload_n hx hb dX5_comes_95 rfl (lv_at hl 4 rfl) ?_
      refine wr_ast (q0 := 1) (t0 := 0) (j := (1 + (6 * n)) + 2) hx hb hK hP hD hS rfl rfl (rfl) (by omega) (by decide) dX5_comes_96 (fun H locs hP hD hS => ?_)
      obtain ⟨mS_96, emS_96⟩ : ∃ zz9 : Nat → Int32, zz9 = upd mS_86 ((1 + (6 * n)) + 2) wd := ⟨_, rfl⟩
      rw [← emS_96] at hP hD
      have hP : va_P D vwCl (MdW om xS xV xB xT xA xP xR cI thr mS_96 mSv (nI q) mBf kLn mTl mAl mPl kBs kLf kAt kWl mRd kRm hsh) H := hP
      have hD : va_D (wr_in (MdW om xS xV xB xT xA xP xR cI thr mS mSv (nI q) mBf kLn mTl mAl mPl kBs kLf kAt kWl mRd kRm hsh)) (MdW om xS xV xB xT xA xP xR cI thr mS_96 mSv (nI q) mBf kLn mTl mAl mPl kBs kLf kAt kWl mRd kRm hsh) := hD
      refine lv_aload_n hx hb dX5_comes_97 rfl (lv_at hl 1 rfl) ?_
      refine va_get (D := D) (ci := 5) (v := .ref xS) (C := RX5) (T := TX5) (N := 16) hx hb hts hinX5 hown hK hP 0 rfl rfl 1 (by decide) hw7 (fun _ h9 => h9) rfl dX5_comes_98 ?_
      refine lv_iload hx hb dX5_comes_101 (lv_at hl 0 rfl) ?_
      refine lv_iconst (v := 3) hx hb dX5_comes_103 (by decide) ?_
      refine lv_iadd hx hb dX5_comes_104 ?_
      refine lv_asi (y := nI ((1 + (6 * n)) + 3)) (nI_add (1 + (6 * n)) 3) ?_
      refine lv_iload hx hb dX5_comes_105 (lv_at hl 5 rfl) ?_
      refine wr_ast (q0 := 1) (t0 := 0) (j := (1 + (6 * n)) + 3) hx hb hK hP hD hS rfl rfl (rfl) (by omega) (by decide) dX5_comes_107 (fun H locs hP hD hS => ?_)
      obtain ⟨mS_107, emS_107⟩ : ∃ zz9 : Nat → Int32, zz9 = upd mS_96 ((1 + (6 * n)) + 3) hg := ⟨_, rfl⟩
      rw [← emS_107] at hP hD
      have hP : va_P D vwCl (MdW om xS xV xB xT xA xP xR cI thr mS_107 mSv (nI q) mBf kLn mTl mAl mPl kBs kLf kAt kWl mRd kRm hsh) H := hP
      have hD : va_D (wr_in (MdW om xS xV xB xT xA xP xR cI thr mS mSv (nI q) mBf kLn mTl mAl mPl kBs kLf kAt kWl mRd kRm hsh)) (MdW om xS xV xB xT xA xP xR cI thr mS_107 mSv (nI q) mBf kLn mTl mAl mPl kBs kLf kAt kWl mRd kRm hsh) := hD
      refine lv_aload_n hx hb dX5_comes_108 rfl (lv_at hl 1 rfl) ?_
      refine va_get (D := D) (ci := 5) (v := .ref xS) (C := RX5) (T := TX5) (N := 16) hx hb hts hinX5 hown hK hP 0 rfl rfl 1 (by decide) hw7 (fun _ h9 => h9) rfl dX5_comes_109 ?_
      refine lv_iload hx hb dX5_comes_112 (lv_at hl 0 rfl) ?_
      refine lv_iconst (v := 4) hx hb dX5_comes_114 (by decide) ?_
      refine lv_iadd hx hb dX5_comes_115 ?_
      refine lv_asi (y := nI ((1 + (6 * n)) + 4)) (nI_add (1 + (6 * n)) 4) ?_
      refine lv_iload hx hb dX5_comes_116 (lv_at hl 6 rfl) ?_
      refine wr_ast (q0 := 1) (t0 := 0) (j := (1 + (6 * n)) + 4) hx hb hK hP hD hS rfl rfl (rfl) (by omega) (by decide) dX5_comes_118 (fun H locs hP hD hS => ?_)
      obtain ⟨mS_118, emS_118⟩ : ∃ zz9 : Nat → Int32, zz9 = upd mS_107 ((1 + (6 * n)) + 4) wt := ⟨_, rfl⟩
      rw [← emS_118] at hP hD
      have hP : va_P D vwCl (MdW om xS xV xB xT xA xP xR cI thr mS_118 mSv (nI q) mBf kLn mTl mAl mPl kBs kLf kAt kWl mRd kRm hsh) H := hP
      have hD : va_D (wr_in (MdW om xS xV xB xT xA xP xR cI thr mS mSv (nI q) mBf kLn mTl mAl mPl kBs kLf kAt kWl mRd kRm hsh)) (MdW om xS xV xB xT xA xP xR cI thr mS_118 mSv (nI q) mBf kLn mTl mAl mPl kBs kLf kAt kWl mRd kRm hsh) := hD
      refine lv_aload_n hx hb dX5_comes_119 rfl (lv_at hl 1 rfl) ?_
      refine va_get (D := D) (ci := 5) (v := .ref xS) (C := RX5) (T := TX5) (N := 16) hx hb hts hinX5 hown hK hP 0 rfl rfl 1 (by decide) hw7 (fun _ h9 => h9) rfl dX5_comes_120 ?_
      refine lv_iload hx hb dX5_comes_123 (lv_at hl 0 rfl) ?_
      refine lv_iconst (v := 5) hx hb dX5_comes_125 (by decide) ?_
      refine lv_iadd hx hb dX5_comes_126 ?_
      refine lv_asi (y := nI ((1 + (6 * n)) + 5)) (nI_add (1 + (6 * n)) 5) ?_
      refine lv_iconst (v := 0) hx hb dX5_comes_127 (by decide) ?_
      refine wr_ast (q0 := 1) (t0 := 0) (j := (1 + (6 * n)) + 5) hx hb hK hP hD hS rfl rfl (rfl) (by omega) (by decide) dX5_comes_128 (fun H locs hP hD hS => ?_)
      obtain ⟨mS_128, emS_128⟩ : ∃ zz9 : Nat → Int32, zz9 = upd mS_118 ((1 + (6 * n)) + 5) 0 := ⟨_, rfl⟩
      rw [← emS_128] at hP hD
      have hP : va_P D vwCl (MdW om xS xV xB xT xA xP xR cI thr mS_128 mSv (nI q) mBf kLn mTl mAl mPl kBs kLf kAt kWl mRd kRm hsh) H := hP
      have hD : va_D (wr_in (MdW om xS xV xB xT xA xP xR cI thr mS mSv (nI q) mBf kLn mTl mAl mPl kBs kLf kAt kWl mRd kRm hsh)) (MdW om xS xV xB xT xA xP xR cI thr mS_128 mSv (nI q) mBf kLn mTl mAl mPl kBs kLf kAt kWl mRd kRm hsh) := hD
      refine lv_aload_n hx hb dX5_comes_129 rfl (lv_at hl 1 rfl) ?_
      refine va_get (D := D) (ci := 5) (v := .ref xS) (C := RX5) (T := TX5) (N := 16) hx hb hts hinX5 hown hK hP 0 rfl rfl 1 (by decide) hw7 (fun _ h9 => h9) rfl dX5_comes_130 ?_
      refine lv_iconst (v := 0) hx hb dX5_comes_133 (by decide) ?_
      refine lv_dup2_11 hx hb dX5_comes_134 rfl rfl ?_
      refine rd_ald (q0 := 1) (t0 := 0) (j := 0) (v := nI n) hx hb hK hP rfl rfl (rfl) (by omega) (by decide) (by rw [emS_128, emS_118, emS_107, emS_96, emS_86, emS_76]; exact mIns_n inv3) dX5_comes_135 ?_
      refine lv_iconst (v := 1) hx hb dX5_comes_136 (by decide) ?_
      refine lv_iadd hx hb dX5_comes_137 ?_
      refine lv_asi (y := nI (n + 1)) (nI_add n 1) ?_
      refine wr_ast (q0 := 1) (t0 := 0) (j := 0) hx hb hK hP hD hS rfl rfl (rfl) (by omega) (by decide) dX5_comes_138 (fun H locs hP hD hS => ?_)
      obtain ⟨mS_138, emS_138⟩ : ∃ zz9 : Nat → Int32, zz9 = upd mS_128 0 (nI (n + 1)) := ⟨_, rfl⟩
      rw [← emS_138] at hP hD
      have hP : va_P D vwCl (MdW om xS xV xB xT xA xP xR cI thr mS_138 mSv (nI q) mBf kLn mTl mAl mPl kBs kLf kAt kWl mRd kRm hsh) H := hP
      have hD : va_D (wr_in (MdW om xS xV xB xT xA xP xR cI thr mS mSv (nI q) mBf kLn mTl mAl mPl kBs kLf kAt kWl mRd kRm hsh)) (MdW om xS xV xB xT xA xP xR cI thr mS_138 mSv (nI q) mBf kLn mTl mAl mPl kBs kLf kAt kWl mRd kRm hsh) := hD
      exact wr_vret hx hb hr hlocks hP hS rfl dX5_comes_139 (by refine ⟨rfl, _, ?_, rfl⟩; rw [emS_138, emS_128, emS_118, emS_107, emS_96, emS_86, emS_76]; exact mIns_ok hn8 c_11 hle3 inv3)
    · have c_11n := Nat.not_le.mpr c_11
      refine lv_aload_n hx hb dX5_comes_14 rfl (lv_at hl 0 rfl) ?_
      refine lv_iload hx hb dX5_comes_15 (lv_at hl 6 rfl) ?_
      have hmd : md_in (MdW om xS xV xB xT xA xP xR cI thr S1 mSv (nI q) mBf kLn mTl mAl mPl kBs kLf kAt kWl mRd kRm hsh) [(cI, .int)] om n (mDr P x y i) := ⟨0, 1, 0, xS, cI, S1, _, rfl, rfl, rfl, rfl, (Nat.le_of_lt hn8), inv3.1, inv3.2, (bd_ok_dr hbk)⟩
      refine rd_callV (As := [.int (nI i)]) (rest := []) ⟨hx, hb, hml, hown, hts⟩ (c_X5_cornerOf l D hmd c_11) (cwV 1 hts gX5_comes_X5_cornerOf rfl rfl rfl (by decide +kernel) ⟨by decide, by decide⟩) hK hN hP (q0 := 0) rfl rfl rfl hl.1 rfl (Nat.le_of_ble_eq_true rfl) ⟨by decide, by decide⟩ dX5_comes_17 ?_
      refine lv_iconst (v := (-1)) hx hb dX5_comes_20 (by decide) ?_
      refine lv_icmp_eq (tgt := 48) hx hb dX5_comes_21 (by decide) (fun c_21 => ?_) (fun c_21 => ?_)
      · refine lv_iinc (v := nI (i + 1)) (lv' := [(6, .int (nI (i + 1))), (0, .ref om), (1, .int x), (2, .int y), (3, .int wd), (4, .int hg), (5, .int wt)]) hx hb dX5_comes_48 hl (k := 6) rfl (nI_add i 1) (by decide) rfl (fun ls hl => ?_)
        refine lv_goto (tgt := 3) hx hb dX5_comes_51 (by decide) ?_
        exact ih3 (i + 1) S1 H locs ls (by omega) (by omega) (by exact mDr_step_n c_11 inv3 c_21) hP hD hS (lv_sub hl [1, 2, 3, 4, 5, 6, 0] rfl)
      · refine lv_aload_n hx hb dX5_comes_24 rfl (lv_at hl 0 rfl) ?_
        refine lv_iload hx hb dX5_comes_25 (lv_at hl 6 rfl) ?_
        refine lv_aload_n hx hb dX5_comes_27 rfl (lv_at hl 0 rfl) ?_
        refine lv_iload hx hb dX5_comes_28 (lv_at hl 6 rfl) ?_
        have hmd : md_in (MdW om xS xV xB xT xA xP xR cI thr S1 mSv (nI q) mBf kLn mTl mAl mPl kBs kLf kAt kWl mRd kRm hsh) [(cI, .int)] om n (mDr P x y i) := ⟨0, 1, 0, xS, cI, S1, _, rfl, rfl, rfl, rfl, (Nat.le_of_lt hn8), inv3.1, inv3.2, (bd_ok_dr hbk)⟩
        refine rd_callV (As := [.int (nI i)]) (rest := [.int (nI i), .ref om]) ⟨hx, hb, hml, hown, hts⟩ (c_X5_cornerOf l D hmd c_11) (cwV 1 hts gX5_comes_X5_cornerOf rfl rfl rfl (by decide +kernel) ⟨by decide, by decide⟩) hK hN hP (q0 := 0) rfl rfl rfl hl.1 rfl (Nat.le_of_ble_eq_true rfl) ⟨by decide, by decide⟩ dX5_comes_30 ?_
        refine lv_iload_n hx hb dX5_comes_33 rfl (lv_at hl 1 rfl) ?_
        refine lv_iload_n hx hb dX5_comes_34 rfl (lv_at hl 2 rfl) ?_
        have hmd : md_in (MdW om xS xV xB xT xA xP xR cI thr S1 mSv (nI q) mBf kLn mTl mAl mPl kBs kLf kAt kWl mRd kRm hsh) [(cI, .int)] om n (mDr P x y i) := ⟨0, 1, 0, xS, cI, S1, _, rfl, rfl, rfl, rfl, (Nat.le_of_lt hn8), inv3.1, inv3.2, (bd_ok_dr hbk)⟩
        refine rd_callV (As := [.int (nI i), .int ((mDr P x y i) i 5), .int x, .int y]) (rest := []) ⟨hx, hb, hml, hown, hts⟩ (c_X5_has l D hmd c_11 (bd_ok4 (bd_ok_dr hbk) c_11 c_21) x y) (cwV 4 hts gX5_comes_X5_has rfl rfl rfl (by decide +kernel) ⟨by decide, by decide⟩) hK hN hP (q0 := 0) rfl rfl rfl hl.1 rfl (Nat.le_of_ble_eq_true rfl) ⟨by decide, by decide⟩ dX5_comes_35 ?_
        refine rd_ifeq_b (tgt := 48) hx hb dX5_comes_38 (by decide) (fun c_38 => ?_) (fun c_38 => ?_)
        · refine lv_iinc (v := nI (i + 1)) (lv' := [(6, .int (nI (i + 1))), (0, .ref om), (1, .int x), (2, .int y), (3, .int wd), (4, .int hg), (5, .int wt)]) hx hb dX5_comes_48 hl (k := 6) rfl (nI_add i 1) (by decide) rfl (fun ls hl => ?_)
          refine lv_goto (tgt := 3) hx hb dX5_comes_51 (by decide) ?_
          exact ih3 (i + 1) S1 H locs ls (by omega) (by omega) (by exact mDr_step_c c_11 inv3 hbk c_21 c_38) hP hD hS (lv_sub hl [1, 2, 3, 4, 5, 6, 0] rfl)
        · refine lv_aload_n hx hb dX5_comes_41 rfl (lv_at hl 0 rfl) ?_
          refine lv_iload hx hb dX5_comes_42 (lv_at hl 6 rfl) ?_
          refine lv_iconst (v := (-1)) hx hb dX5_comes_44 (by decide) ?_
          refine wr_callV (As := [.int (nI i), .int (-1)]) (rest := []) ⟨hx, hb, hml, hown, hts⟩ (c_X5_stands l D (i := i) (by omega) (-1)) (cwV 2 hts gX5_comes_X5_stands rfl rfl rfl (by decide +kernel) ⟨by decide, by decide⟩) hK hN hZ hP hD hS [0, 1, 2, 3, 4, 5, 6, 7] [0] rfl (by decide) rfl (q0 := 0) rfl rfl rfl hl.1 rfl (Nat.le_of_ble_eq_true rfl) ⟨by decide, by decide⟩ dX5_comes_45 (fun v9 w9 H locs hp9 hP hD hS => ?_)
          obtain ⟨rfl, rfl⟩ := hp9
          obtain ⟨mS_45, emS_45⟩ : ∃ zz9 : Nat → Int32, zz9 = upd S1 (1 + 6 * i + 5) ((-1) + 1) := ⟨_, rfl⟩
          rw [← emS_45] at hP hD
          have hP : va_P D vwCl (MdW om xS xV xB xT xA xP xR cI thr mS_45 mSv (nI q) mBf kLn mTl mAl mPl kBs kLf kAt kWl mRd kRm hsh) H := hP
          have hD : va_D (wr_in (MdW om xS xV xB xT xA xP xR cI thr mS mSv (nI q) mBf kLn mTl mAl mPl kBs kLf kAt kWl mRd kRm hsh)) (MdW om xS xV xB xT xA xP xR cI thr mS_45 mSv (nI q) mBf kLn mTl mAl mPl kBs kLf kAt kWl mRd kRm hsh) := hD
          refine W.eq (g2 := F0 m 48 ls []) rfl ?_
          refine lv_iinc (v := nI (i + 1)) (lv' := [(6, .int (nI (i + 1))), (0, .ref om), (1, .int x), (2, .int y), (3, .int wd), (4, .int hg), (5, .int wt)]) hx hb dX5_comes_48 hl (k := 6) rfl (nI_add i 1) (by decide) rfl (fun ls hl => ?_)
          refine lv_goto (tgt := 3) hx hb dX5_comes_51 (by decide) ?_
          exact ih3 (i + 1) mS_45 H locs ls (by omega) (by omega) (by exact mDr_step_t c_11 (by omega) inv3 emS_45 c_21 c_38) hP hD hS (lv_sub hl [1, 2, 3, 4, 5, 6, 0] rfl)
