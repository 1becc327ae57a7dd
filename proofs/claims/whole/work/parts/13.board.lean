set_option maxHeartbeats 4000000 in
set_option maxRecDepth 100000 in
theorem c_X4_hasBit (l : Launch) (D : va_G) {w : va_W} {tys : List (ClassId × FieldType)} (a b : Int32) : rd_M l yX4_hasBit wsX4_hasBit ({ frames := 0, cells := 0, slots := 0, locals := 0 } : Room) D w tys [.int a, .int b] (bI (hB a b)) := by
  refine rd_of (cc := cX4_hasBit) (maxL := 2) (ret := some .boolean) (by decide) rfl (Nat.le_of_ble_eq_true rfl) ?_
  intro p e s m below meth c hx hb hr hml hts hown hlocks hP hK hN ls hl
  have hown : s.vm.findClass RX4 = some m.cls := hown
  have hl : lv_has ls 2 [(0, .int a), (1, .int b)] := hl
  refine lv_iload_n hx hb dX4_hasBit_0 rfl (lv_at hl 0 rfl) ?_
  refine lv_iload_n hx hb dX4_hasBit_1 rfl (lv_at hl 1 rfl) ?_
  refine lv_iushr hx hb dX4_hasBit_2 rfl ?_
  refine lv_iconst (v := 1) hx hb dX4_hasBit_3 (by decide) ?_
  refine lv_iand hx hb dX4_hasBit_4 ?_
  refine lv_if_eq (tgt := 12) hx hb dX4_hasBit_5 (by decide) (fun c_5 => ?_) (fun c_5 => ?_)
  · refine lv_iconst (v := 0) hx hb dX4_hasBit_12 (by decide) ?_
    exact rd_zret hx hb hr hlocks dX4_hasBit_13 (by simp [hB, bI, c_5])
  · refine lv_iconst (v := 1) hx hb dX4_hasBit_8 (by decide) ?_
    refine lv_goto (tgt := 13) hx hb dX4_hasBit_9 (by decide) ?_
    exact rd_zret hx hb hr hlocks dX4_hasBit_13 (by simp [hB, bI, c_5])
set_option maxHeartbeats 4000000 in
set_option maxRecDepth 100000 in
theorem c_X0_sharedLength (l : Launch) (D : va_G) {w : va_W} {tys : List (ClassId × FieldType)} (a la b lb : Int32) : rd_M l yX0_sharedLength wsX0_sharedLength ({ frames := 1, cells := 0, slots := 0, locals := 21 } : Room) D w tys [.int a, .int la, .int b, .int lb] (gLen a la b lb) := by
  refine rd_of (cc := cX0_sharedLength) (maxL := 6) (ret := some .int) (by decide) rfl (Nat.le_of_ble_eq_true rfl) ?_
  intro p e s m below meth c hx hb hr hml hts hown hlocks hP hK hN ls hl
  have hown : s.vm.findClass RX0 = some m.cls := hown
  have hl : lv_has ls 6 [(0, .int a), (1, .int la), (2, .int b), (3, .int lb)] := hl
  refine lv_iload_n hx hb dX0_sharedLength_0 rfl (lv_at hl 0 rfl) ?_
  refine lv_iload_n hx hb dX0_sharedLength_1 rfl (lv_at hl 2 rfl) ?_
  refine va_mmax hx hb (hml.trans hl.1.symm) hown (hts (.methodLink RX0 57 Lib.Math.max.name) (by decide +kernel)) (hts (.static Lib.Math.max.name) (by decide +kernel)) (hts (.initialized "java/lang/Math") (by decide +kernel)) (hts (.code Lib.Math.max.name Lib.Math.max.code 2 (some .int)) (by decide +kernel)) (by decide) (by decide) (by decide) (by decide) dX0_sharedLength_2 ?_
  refine lv_asi (y := iMax a b) rfl ?_
  refine lv_istore (lv' := [(4, .int (iMax a b)), (0, .int a), (1, .int la), (2, .int b), (3, .int lb)]) hx hb dX0_sharedLength_5 hl (by decide) rfl (fun ls hl => ?_)
  refine lv_iload_n hx hb dX0_sharedLength_7 rfl (lv_at hl 1 rfl) ?_
  refine lv_iload_n hx hb dX0_sharedLength_8 rfl (lv_at hl 2 rfl) ?_
  refine lv_iadd hx hb dX0_sharedLength_9 ?_
  refine lv_iload_n hx hb dX0_sharedLength_10 rfl (lv_at hl 3 rfl) ?_
  refine lv_iload_n hx hb dX0_sharedLength_11 rfl (lv_at hl 4 rfl) ?_
  refine lv_iadd hx hb dX0_sharedLength_12 ?_
  refine va_mmin hx hb (hml.trans hl.1.symm) hown (hts (.methodLink RX0 62 Lib.Math.min.name) (by decide +kernel)) (hts (.static Lib.Math.min.name) (by decide +kernel)) (hts (.initialized "java/lang/Math") (by decide +kernel)) (hts (.code Lib.Math.min.name Lib.Math.min.code 2 (some .int)) (by decide +kernel)) (by decide) (by decide) (by decide) (by decide) dX0_sharedLength_13 ?_
  refine lv_asi (y := iMin (a + la) (b + lb)) rfl ?_
  refine lv_istore (lv' := [(5, .int (iMin (a + la) (b + lb))), (4, .int (iMax a b)), (0, .int a), (1, .int la), (2, .int b), (3, .int lb)]) hx hb dX0_sharedLength_16 hl (by decide) rfl (fun ls hl => ?_)
  refine lv_iconst (v := 0) hx hb dX0_sharedLength_18 (by decide) ?_
  refine lv_iload hx hb dX0_sharedLength_19 (lv_at hl 0 rfl) ?_
  refine lv_iload hx hb dX0_sharedLength_21 (lv_at hl 1 rfl) ?_
  refine lv_isub hx hb dX0_sharedLength_23 ?_
  refine va_mmax hx hb (hml.trans hl.1.symm) hown (hts (.methodLink RX0 57 Lib.Math.max.name) (by decide +kernel)) (hts (.static Lib.Math.max.name) (by decide +kernel)) (hts (.initialized "java/lang/Math") (by decide +kernel)) (hts (.code Lib.Math.max.name Lib.Math.max.code 2 (some .int)) (by decide +kernel)) (by decide) (by decide) (by decide) (by decide) dX0_sharedLength_24 ?_
  refine lv_asi (y := iMax 0 ((iMin (a + la) (b + lb)) - (iMax a b))) rfl ?_
  exact rd_iret hx hb hr hlocks dX0_sharedLength_27 (by rfl)
set_option maxHeartbeats 4000000 in
set_option maxRecDepth 100000 in
theorem c_X0_left (l : Launch) (D : va_G) {w : va_W} {tys : List (ClassId × FieldType)} {ob n : Nat} {P : Nat → Nat → Int32} (hbd : bd_in w tys ob n P) {i : Nat} (hi : i < n) (k : Int32) : rd_M l yX0_left wsX0_left ({ frames := 0, cells := 0, slots := 0, locals := 0 } : Room) D w tys [.ref ob, .int (nI i), .int k] (gL P i k) := by
  obtain ⟨qb, qc, t0, oc, cI, f, hqb, hqc, ht0, hn8, hf⟩ := id hbd
  refine rd_of (cc := cX0_left) (maxL := 4) (ret := some .int) (by decide) rfl (Nat.le_of_ble_eq_true rfl) ?_
  intro p e s m below meth c hx hb hr hml hts hown hlocks hP hK hN ls hl
  have hown : s.vm.findClass RX0 = some m.cls := hown
  have hl : lv_has ls 4 [(0, .ref ob), (1, .int (nI i)), (2, .int k)] := hl
  have hw11 := hts (.fieldLink RX0 11 "CornerLabels$Board" "cells" "[I") (by decide +kernel)
  have hinX0 : ∀ w ∈ u_ws RX0 TX0 2, w ∈ wsX0_left := by decide +kernel
  refine lv_iload_n hx hb dX0_left_0 rfl (lv_at hl 2 rfl) ?_
  refine lv_if_eq (tgt := 9) hx hb dX0_left_1 (by decide) (fun c_1 => ?_) (fun c_1 => ?_)
  · refine lv_iconst (v := 1) hx hb dX0_left_9 (by decide) ?_
    refine lv_goto (tgt := 14) hx hb dX0_left_10 (by decide) ?_
    refine lv_istore_n (lv' := [(3, .int 1), (0, .ref ob), (1, .int (nI i)), (2, .int k)]) hx hb dX0_left_14 rfl hl (by decide) rfl (fun ls hl => ?_)
    refine lv_iload_n hx hb dX0_left_15 rfl (lv_at hl 0 rfl) ?_
    refine lv_if_eq (tgt := 32) hx hb dX0_left_16 (by decide) (fun h9 => absurd h9 (by decide)) (fun _ => ?_)
    refine lv_aload_n hx hb dX0_left_19 rfl (lv_at hl 1 rfl) ?_
    refine va_get (D := D) (ci := 0) (v := .ref oc) (C := RX0) (T := TX0) (N := 2) hx hb hts hinX0 hown hK hP qb hqb rfl 0 (by decide) hw11 (fun _ h9 => h9) rfl dX0_left_20 ?_
    refine lv_iconst (v := 0) hx hb dX0_left_23 (by decide) ?_
    refine lv_iload_n hx hb dX0_left_24 rfl (lv_at hl 2 rfl) ?_
    refine lv_iadd hx hb dX0_left_25 ?_
    refine lv_asi (y := nI (0 + i)) (nI_add 0 i) ?_
    refine rd_ald (q0 := qc) (t0 := t0) (j := 0 + i) (v := P i 0) hx hb hK hP hqc ht0 (rfl) (by omega) (by decide) (by rw [show 0 + i = 8 * 0 + i by omega]; exact hf i hi 0 (by decide)) dX0_left_26 ?_
    refine lv_iconst (v := 1) hx hb dX0_left_27 (by decide) ?_
    refine lv_iadd hx hb dX0_left_28 ?_
    refine lv_goto (tgt := 50) hx hb dX0_left_29 (by decide) ?_
    exact rd_iret hx hb hr hlocks dX0_left_50 (by simp [gL, bI, c_1])
  · refine lv_iload_n hx hb dX0_left_4 rfl (lv_at hl 2 rfl) ?_
    refine lv_iconst (v := 3) hx hb dX0_left_5 (by decide) ?_
    refine lv_icmp_ne (tgt := 13) hx hb dX0_left_6 (by decide) (fun c_6 => ?_) (fun c_6 => ?_)
    · refine lv_iconst (v := 0) hx hb dX0_left_13 (by decide) ?_
      refine lv_istore_n (lv' := [(3, .int 0), (0, .ref ob), (1, .int (nI i)), (2, .int k)]) hx hb dX0_left_14 rfl hl (by decide) rfl (fun ls hl => ?_)
      refine lv_iload_n hx hb dX0_left_15 rfl (lv_at hl 0 rfl) ?_
      refine lv_if_eq (tgt := 32) hx hb dX0_left_16 (by decide) (fun _ => ?_) (fun h9 => absurd (by decide) h9)
      refine lv_aload_n hx hb dX0_left_32 rfl (lv_at hl 1 rfl) ?_
      refine va_get (D := D) (ci := 0) (v := .ref oc) (C := RX0) (T := TX0) (N := 2) hx hb hts hinX0 hown hK hP qb hqb rfl 0 (by decide) hw11 (fun _ h9 => h9) rfl dX0_left_33 ?_
      refine lv_iconst (v := 0) hx hb dX0_left_36 (by decide) ?_
      refine lv_iload_n hx hb dX0_left_37 rfl (lv_at hl 2 rfl) ?_
      refine lv_iadd hx hb dX0_left_38 ?_
      refine lv_asi (y := nI (0 + i)) (nI_add 0 i) ?_
      refine rd_ald (q0 := qc) (t0 := t0) (j := 0 + i) (v := P i 0) hx hb hK hP hqc ht0 (rfl) (by omega) (by decide) (by rw [show 0 + i = 8 * 0 + i by omega]; exact hf i hi 0 (by decide)) dX0_left_39 ?_
      refine lv_aload_n hx hb dX0_left_40 rfl (lv_at hl 1 rfl) ?_
      refine va_get (D := D) (ci := 0) (v := .ref oc) (C := RX0) (T := TX0) (N := 2) hx hb hts hinX0 hown hK hP qb hqb rfl 0 (by decide) hw11 (fun _ h9 => h9) rfl dX0_left_41 ?_
      refine lv_bipush (v := 16) hx hb dX0_left_44 (by decide) ?_
      refine lv_iload_n hx hb dX0_left_46 rfl (lv_at hl 2 rfl) ?_
      refine lv_iadd hx hb dX0_left_47 ?_
      refine lv_asi (y := nI (16 + i)) (nI_add 16 i) ?_
      refine rd_ald (q0 := qc) (t0 := t0) (j := 16 + i) (v := P i 2) hx hb hK hP hqc ht0 (rfl) (by omega) (by decide) (by rw [show 16 + i = 8 * 2 + i by omega]; exact hf i hi 2 (by decide)) dX0_left_48 ?_
      refine lv_isub hx hb dX0_left_49 ?_
      exact rd_iret hx hb hr hlocks dX0_left_50 (by simp [gL, bI, c_1, c_6])
    · refine lv_iconst (v := 1) hx hb dX0_left_9 (by decide) ?_
      refine lv_goto (tgt := 14) hx hb dX0_left_10 (by decide) ?_
      refine lv_istore_n (lv' := [(3, .int 1), (0, .ref ob), (1, .int (nI i)), (2, .int k)]) hx hb dX0_left_14 rfl hl (by decide) rfl (fun ls hl => ?_)
      refine lv_iload_n hx hb dX0_left_15 rfl (lv_at hl 0 rfl) ?_
      refine lv_if_eq (tgt := 32) hx hb dX0_left_16 (by decide) (fun h9 => absurd h9 (by decide)) (fun _ => ?_)
      refine lv_aload_n hx hb dX0_left_19 rfl (lv_at hl 1 rfl) ?_
      refine va_get (D := D) (ci := 0) (v := .ref oc) (C := RX0) (T := TX0) (N := 2) hx hb hts hinX0 hown hK hP qb hqb rfl 0 (by decide) hw11 (fun _ h9 => h9) rfl dX0_left_20 ?_
      refine lv_iconst (v := 0) hx hb dX0_left_23 (by decide) ?_
      refine lv_iload_n hx hb dX0_left_24 rfl (lv_at hl 2 rfl) ?_
      refine lv_iadd hx hb dX0_left_25 ?_
      refine lv_asi (y := nI (0 + i)) (nI_add 0 i) ?_
      refine rd_ald (q0 := qc) (t0 := t0) (j := 0 + i) (v := P i 0) hx hb hK hP hqc ht0 (rfl) (by omega) (by decide) (by rw [show 0 + i = 8 * 0 + i by omega]; exact hf i hi 0 (by decide)) dX0_left_26 ?_
      refine lv_iconst (v := 1) hx hb dX0_left_27 (by decide) ?_
      refine lv_iadd hx hb dX0_left_28 ?_
      refine lv_goto (tgt := 50) hx hb dX0_left_29 (by decide) ?_
      exact rd_iret hx hb hr hlocks dX0_left_50 (by simp [gL, bI, c_1, c_6])
set_option maxHeartbeats 4000000 in
set_option maxRecDepth 100000 in
theorem c_X0_top (l : Launch) (D : va_G) {w : va_W} {tys : List (ClassId × FieldType)} {ob n : Nat} {P : Nat → Nat → Int32} (hbd : bd_in w tys ob n P) {i : Nat} (hi : i < n) (k : Int32) : rd_M l yX0_top wsX0_top ({ frames := 0, cells := 0, slots := 0, locals := 0 } : Room) D w tys [.ref ob, .int (nI i), .int k] (gT P i k) := by
  obtain ⟨qb, qc, t0, oc, cI, f, hqb, hqc, ht0, hn8, hf⟩ := id hbd
  refine rd_of (cc := cX0_top) (maxL := 4) (ret := some .int) (by decide) rfl (Nat.le_of_ble_eq_true rfl) ?_
  intro p e s m below meth c hx hb hr hml hts hown hlocks hP hK hN ls hl
  have hown : s.vm.findClass RX0 = some m.cls := hown
  have hl : lv_has ls 4 [(0, .ref ob), (1, .int (nI i)), (2, .int k)] := hl
  have hw11 := hts (.fieldLink RX0 11 "CornerLabels$Board" "cells" "[I") (by decide +kernel)
  have hinX0 : ∀ w ∈ u_ws RX0 TX0 2, w ∈ wsX0_top := by decide +kernel
  refine lv_iload_n hx hb dX0_top_0 rfl (lv_at hl 2 rfl) ?_
  refine lv_if_eq (tgt := 9) hx hb dX0_top_1 (by decide) (fun c_1 => ?_) (fun c_1 => ?_)
  · refine lv_iconst (v := 1) hx hb dX0_top_9 (by decide) ?_
    refine lv_goto (tgt := 14) hx hb dX0_top_10 (by decide) ?_
    refine lv_istore_n (lv' := [(3, .int 1), (0, .ref ob), (1, .int (nI i)), (2, .int k)]) hx hb dX0_top_14 rfl hl (by decide) rfl (fun ls hl => ?_)
    refine lv_iload_n hx hb dX0_top_15 rfl (lv_at hl 0 rfl) ?_
    refine lv_if_eq (tgt := 33) hx hb dX0_top_16 (by decide) (fun h9 => absurd h9 (by decide)) (fun _ => ?_)
    refine lv_aload_n hx hb dX0_top_19 rfl (lv_at hl 1 rfl) ?_
    refine va_get (D := D) (ci := 0) (v := .ref oc) (C := RX0) (T := TX0) (N := 2) hx hb hts hinX0 hown hK hP qb hqb rfl 0 (by decide) hw11 (fun _ h9 => h9) rfl dX0_top_20 ?_
    refine lv_bipush (v := 8) hx hb dX0_top_23 (by decide) ?_
    refine lv_iload_n hx hb dX0_top_25 rfl (lv_at hl 2 rfl) ?_
    refine lv_iadd hx hb dX0_top_26 ?_
    refine lv_asi (y := nI (8 + i)) (nI_add 8 i) ?_
    refine rd_ald (q0 := qc) (t0 := t0) (j := 8 + i) (v := P i 1) hx hb hK hP hqc ht0 (rfl) (by omega) (by decide) (by rw [show 8 + i = 8 * 1 + i by omega]; exact hf i hi 1 (by decide)) dX0_top_27 ?_
    refine lv_iconst (v := 1) hx hb dX0_top_28 (by decide) ?_
    refine lv_iadd hx hb dX0_top_29 ?_
    refine lv_goto (tgt := 52) hx hb dX0_top_30 (by decide) ?_
    exact rd_iret hx hb hr hlocks dX0_top_52 (by simp [gT, bI, c_1])
  · refine lv_iload_n hx hb dX0_top_4 rfl (lv_at hl 2 rfl) ?_
    refine lv_iconst (v := 1) hx hb dX0_top_5 (by decide) ?_
    refine lv_icmp_ne (tgt := 13) hx hb dX0_top_6 (by decide) (fun c_6 => ?_) (fun c_6 => ?_)
    · refine lv_iconst (v := 0) hx hb dX0_top_13 (by decide) ?_
      refine lv_istore_n (lv' := [(3, .int 0), (0, .ref ob), (1, .int (nI i)), (2, .int k)]) hx hb dX0_top_14 rfl hl (by decide) rfl (fun ls hl => ?_)
      refine lv_iload_n hx hb dX0_top_15 rfl (lv_at hl 0 rfl) ?_
      refine lv_if_eq (tgt := 33) hx hb dX0_top_16 (by decide) (fun _ => ?_) (fun h9 => absurd (by decide) h9)
      refine lv_aload_n hx hb dX0_top_33 rfl (lv_at hl 1 rfl) ?_
      refine va_get (D := D) (ci := 0) (v := .ref oc) (C := RX0) (T := TX0) (N := 2) hx hb hts hinX0 hown hK hP qb hqb rfl 0 (by decide) hw11 (fun _ h9 => h9) rfl dX0_top_34 ?_
      refine lv_bipush (v := 8) hx hb dX0_top_37 (by decide) ?_
      refine lv_iload_n hx hb dX0_top_39 rfl (lv_at hl 2 rfl) ?_
      refine lv_iadd hx hb dX0_top_40 ?_
      refine lv_asi (y := nI (8 + i)) (nI_add 8 i) ?_
      refine rd_ald (q0 := qc) (t0 := t0) (j := 8 + i) (v := P i 1) hx hb hK hP hqc ht0 (rfl) (by omega) (by decide) (by rw [show 8 + i = 8 * 1 + i by omega]; exact hf i hi 1 (by decide)) dX0_top_41 ?_
      refine lv_aload_n hx hb dX0_top_42 rfl (lv_at hl 1 rfl) ?_
      refine va_get (D := D) (ci := 0) (v := .ref oc) (C := RX0) (T := TX0) (N := 2) hx hb hts hinX0 hown hK hP qb hqb rfl 0 (by decide) hw11 (fun _ h9 => h9) rfl dX0_top_43 ?_
      refine lv_bipush (v := 24) hx hb dX0_top_46 (by decide) ?_
      refine lv_iload_n hx hb dX0_top_48 rfl (lv_at hl 2 rfl) ?_
      refine lv_iadd hx hb dX0_top_49 ?_
      refine lv_asi (y := nI (24 + i)) (nI_add 24 i) ?_
      refine rd_ald (q0 := qc) (t0 := t0) (j := 24 + i) (v := P i 3) hx hb hK hP hqc ht0 (rfl) (by omega) (by decide) (by rw [show 24 + i = 8 * 3 + i by omega]; exact hf i hi 3 (by decide)) dX0_top_50 ?_
      refine lv_isub hx hb dX0_top_51 ?_
      exact rd_iret hx hb hr hlocks dX0_top_52 (by simp [gT, bI, c_1, c_6])
    · refine lv_iconst (v := 1) hx hb dX0_top_9 (by decide) ?_
      refine lv_goto (tgt := 14) hx hb dX0_top_10 (by decide) ?_
      refine lv_istore_n (lv' := [(3, .int 1), (0, .ref ob), (1, .int (nI i)), (2, .int k)]) hx hb dX0_top_14 rfl hl (by decide) rfl (fun ls hl => ?_)
      refine lv_iload_n hx hb dX0_top_15 rfl (lv_at hl 0 rfl) ?_
      refine lv_if_eq (tgt := 33) hx hb dX0_top_16 (by decide) (fun h9 => absurd h9 (by decide)) (fun _ => ?_)
      refine lv_aload_n hx hb dX0_top_19 rfl (lv_at hl 1 rfl) ?_
      refine va_get (D := D) (ci := 0) (v := .ref oc) (C := RX0) (T := TX0) (N := 2) hx hb hts hinX0 hown hK hP qb hqb rfl 0 (by decide) hw11 (fun _ h9 => h9) rfl dX0_top_20 ?_
      refine lv_bipush (v := 8) hx hb dX0_top_23 (by decide) ?_
      refine lv_iload_n hx hb dX0_top_25 rfl (lv_at hl 2 rfl) ?_
      refine lv_iadd hx hb dX0_top_26 ?_
      refine lv_asi (y := nI (8 + i)) (nI_add 8 i) ?_
      refine rd_ald (q0 := qc) (t0 := t0) (j := 8 + i) (v := P i 1) hx hb hK hP hqc ht0 (rfl) (by omega) (by decide) (by rw [show 8 + i = 8 * 1 + i by omega]; exact hf i hi 1 (by decide)) dX0_top_27 ?_
      refine lv_iconst (v := 1) hx hb dX0_top_28 (by decide) ?_
      refine lv_iadd hx hb dX0_top_29 ?_
      refine lv_goto (tgt := 52) hx hb dX0_top_30 (by decide) ?_
      exact rd_iret hx hb hr hlocks dX0_top_52 (by simp [gT, bI, c_1, c_6])
set_option maxHeartbeats 4000000 in
set_option maxRecDepth 100000 in
theorem c_X0_stands (l : Launch) (D : va_G) {w : va_W} {tys : List (ClassId × FieldType)} {ob n : Nat} {P : Nat → Nat → Int32} (hbd : bd_in w tys ob n P) {i : Nat} (hi : i < n) : rd_M l yX0_stands wsX0_stands ({ frames := 0, cells := 0, slots := 0, locals := 0 } : Room) D w tys [.ref ob, .int (nI i)] (bI (gSt P i)) := by
  obtain ⟨qb, qc, t0, oc, cI, f, hqb, hqc, ht0, hn8, hf⟩ := id hbd
  refine rd_of (cc := cX0_stands) (maxL := 2) (ret := some .boolean) (by decide) rfl (Nat.le_of_ble_eq_true rfl) ?_
  intro p e s m below meth c hx hb hr hml hts hown hlocks hP hK hN ls hl
  have hown : s.vm.findClass RX0 = some m.cls := hown
  have hl : lv_has ls 2 [(0, .ref ob), (1, .int (nI i))] := hl
  have hw11 := hts (.fieldLink RX0 11 "CornerLabels$Board" "cells" "[I") (by decide +kernel)
  have hinX0 : ∀ w ∈ u_ws RX0 TX0 2, w ∈ wsX0_stands := by decide +kernel
  refine lv_aload_n hx hb dX0_stands_0 rfl (lv_at hl 0 rfl) ?_
  refine va_get (D := D) (ci := 0) (v := .ref oc) (C := RX0) (T := TX0) (N := 2) hx hb hts hinX0 hown hK hP qb hqb rfl 0 (by decide) hw11 (fun _ h9 => h9) rfl dX0_stands_1 ?_
  refine lv_bipush (v := 40) hx hb dX0_stands_4 (by decide) ?_
  refine lv_iload_n hx hb dX0_stands_6 rfl (lv_at hl 1 rfl) ?_
  refine lv_iadd hx hb dX0_stands_7 ?_
  refine lv_asi (y := nI (40 + i)) (nI_add 40 i) ?_
  refine rd_ald (q0 := qc) (t0 := t0) (j := 40 + i) (v := P i 5) hx hb hK hP hqc ht0 (rfl) (by omega) (by decide) (by rw [show 40 + i = 8 * 5 + i by omega]; exact hf i hi 5 (by decide)) dX0_stands_8 ?_
  refine lv_iconst (v := (-1)) hx hb dX0_stands_9 (by decide) ?_
  refine lv_icmp_eq (tgt := 17) hx hb dX0_stands_10 (by decide) (fun c_10 => ?_) (fun c_10 => ?_)
  · refine lv_iconst (v := 0) hx hb dX0_stands_17 (by decide) ?_
    exact rd_zret hx hb hr hlocks dX0_stands_18 (by simp [gSt, bI, c_10])
  · refine lv_iconst (v := 1) hx hb dX0_stands_13 (by decide) ?_
    refine lv_goto (tgt := 18) hx hb dX0_stands_14 (by decide) ?_
    exact rd_zret hx hb hr hlocks dX0_stands_18 (by simp [gSt, bI, c_10])
set_option maxHeartbeats 4000000 in
set_option maxRecDepth 100000 in
theorem c_X0_covers (l : Launch) (D : va_G) {w : va_W} {tys : List (ClassId × FieldType)} {ob n : Nat} {P : Nat → Nat → Int32} (hbd : bd_in w tys ob n P) {i : Nat} (hi : i < n) (k x y : Int32) : rd_M l yX0_covers wsX0_covers ({ frames := 1, cells := 0, slots := 0, locals := 23 } : Room) D w tys [.ref ob, .int (nI i), .int k, .int x, .int y] (bI (gCov P i k x y)) := by
  obtain ⟨qb, qc, t0, oc, cI, f, hqb, hqc, ht0, hn8, hf⟩ := id hbd
  refine rd_of (cc := cX0_covers) (maxL := 7) (ret := some .boolean) (by decide) rfl (Nat.le_of_ble_eq_true rfl) ?_
  intro p e s m below meth c hx hb hr hml hts hown hlocks hP hK hN ls hl
  have hown : s.vm.findClass RX0 = some m.cls := hown
  have hl : lv_has ls 7 [(0, .ref ob), (1, .int (nI i)), (2, .int k), (3, .int x), (4, .int y)] := hl
  have hw11 := hts (.fieldLink RX0 11 "CornerLabels$Board" "cells" "[I") (by decide +kernel)
  have hinX0 : ∀ w ∈ u_ws RX0 TX0 2, w ∈ wsX0_covers := by decide +kernel
  refine lv_aload_n hx hb dX0_covers_0 rfl (lv_at hl 0 rfl) ?_
  refine lv_iload_n hx hb dX0_covers_1 rfl (lv_at hl 1 rfl) ?_
  refine lv_iload_n hx hb dX0_covers_2 rfl (lv_at hl 2 rfl) ?_
  refine rd_callV (As := [.int (nI i), .int k]) (rest := []) ⟨hx, hb, hml, hown, hts⟩ (c_X0_left l D hbd hi k) (cwV 2 hts gX0_covers_X0_left rfl rfl rfl (by decide +kernel) ⟨by decide, by decide⟩) hK hN hP hqb rfl rfl hl.1 rfl (Nat.le_of_ble_eq_true rfl) ⟨by decide, by decide⟩ dX0_covers_3 ?_
  refine lv_istore (lv' := [(5, .int (gL P i k)), (0, .ref ob), (1, .int (nI i)), (2, .int k), (3, .int x), (4, .int y)]) hx hb dX0_covers_6 hl (by decide) rfl (fun ls hl => ?_)
  refine lv_aload_n hx hb dX0_covers_8 rfl (lv_at hl 1 rfl) ?_
  refine lv_iload_n hx hb dX0_covers_9 rfl (lv_at hl 2 rfl) ?_
  refine lv_iload_n hx hb dX0_covers_10 rfl (lv_at hl 3 rfl) ?_
  refine rd_callV (As := [.int (nI i), .int k]) (rest := []) ⟨hx, hb, hml, hown, hts⟩ (c_X0_top l D hbd hi k) (cwV 2 hts gX0_covers_X0_top rfl rfl rfl (by decide +kernel) ⟨by decide, by decide⟩) hK hN hP hqb rfl rfl hl.1 rfl (Nat.le_of_ble_eq_true rfl) ⟨by decide, by decide⟩ dX0_covers_11 ?_
  refine lv_istore (lv' := [(6, .int (gT P i k)), (5, .int (gL P i k)), (0, .ref ob), (1, .int (nI i)), (2, .int k), (3, .int x), (4, .int y)]) hx hb dX0_covers_14 hl (by decide) rfl (fun ls hl => ?_)
  refine lv_iload_n hx hb dX0_covers_16 rfl (lv_at hl 5 rfl) ?_
  refine lv_iload hx hb dX0_covers_17 (lv_at hl 1 rfl) ?_
  refine lv_icmp_lt (tgt := 66) hx hb dX0_covers_19 (by decide) (fun c_19 => ?_) (fun c_19 => ?_)
  · have c_19n := Int32.not_le.mpr c_19
    refine lv_iconst (v := 0) hx hb dX0_covers_66 (by decide) ?_
    exact rd_zret hx hb hr hlocks dX0_covers_67 (by simp [gCov, bI, c_19, c_19n])
  · have c_19n := Int32.not_lt.mp c_19
    refine lv_iload_n hx hb dX0_covers_22 rfl (lv_at hl 5 rfl) ?_
    refine lv_iload hx hb dX0_covers_23 (lv_at hl 1 rfl) ?_
    refine lv_aload_n hx hb dX0_covers_25 rfl (lv_at hl 2 rfl) ?_
    refine va_get (D := D) (ci := 0) (v := .ref oc) (C := RX0) (T := TX0) (N := 2) hx hb hts hinX0 hown hK hP qb hqb rfl 0 (by decide) hw11 (fun _ h9 => h9) rfl dX0_covers_26 ?_
    refine lv_bipush (v := 16) hx hb dX0_covers_29 (by decide) ?_
    refine lv_iload_n hx hb dX0_covers_31 rfl (lv_at hl 3 rfl) ?_
    refine lv_iadd hx hb dX0_covers_32 ?_
    refine lv_asi (y := nI (16 + i)) (nI_add 16 i) ?_
    refine rd_ald (q0 := qc) (t0 := t0) (j := 16 + i) (v := P i 2) hx hb hK hP hqc ht0 (rfl) (by omega) (by decide) (by rw [show 16 + i = 8 * 2 + i by omega]; exact hf i hi 2 (by decide)) dX0_covers_33 ?_
    refine lv_iadd hx hb dX0_covers_34 ?_
    refine lv_icmp_ge (tgt := 66) hx hb dX0_covers_35 (by decide) (fun c_35 => ?_) (fun c_35 => ?_)
    · have c_35n := Int32.not_lt.mpr c_35
      refine lv_iconst (v := 0) hx hb dX0_covers_66 (by decide) ?_
      exact rd_zret hx hb hr hlocks dX0_covers_67 (by simp [gCov, bI, c_19, c_19n, c_35, c_35n])
    · have c_35n := Int32.not_le.mp c_35
      refine lv_iload hx hb dX0_covers_38 (lv_at hl 6 rfl) ?_
      refine lv_iload hx hb dX0_covers_40 (lv_at hl 0 rfl) ?_
      refine lv_icmp_lt (tgt := 66) hx hb dX0_covers_42 (by decide) (fun c_42 => ?_) (fun c_42 => ?_)
      · have c_42n := Int32.not_le.mpr c_42
        refine lv_iconst (v := 0) hx hb dX0_covers_66 (by decide) ?_
        exact rd_zret hx hb hr hlocks dX0_covers_67 (by simp [gCov, bI, c_19, c_19n, c_35, c_35n, c_42, c_42n])
      · have c_42n := Int32.not_lt.mp c_42
        refine lv_iload hx hb dX0_covers_45 (lv_at hl 6 rfl) ?_
        refine lv_iload hx hb dX0_covers_47 (lv_at hl 0 rfl) ?_
        refine lv_aload_n hx hb dX0_covers_49 rfl (lv_at hl 2 rfl) ?_
        refine va_get (D := D) (ci := 0) (v := .ref oc) (C := RX0) (T := TX0) (N := 2) hx hb hts hinX0 hown hK hP qb hqb rfl 0 (by decide) hw11 (fun _ h9 => h9) rfl dX0_covers_50 ?_
        refine lv_bipush (v := 24) hx hb dX0_covers_53 (by decide) ?_
        refine lv_iload_n hx hb dX0_covers_55 rfl (lv_at hl 3 rfl) ?_
        refine lv_iadd hx hb dX0_covers_56 ?_
        refine lv_asi (y := nI (24 + i)) (nI_add 24 i) ?_
        refine rd_ald (q0 := qc) (t0 := t0) (j := 24 + i) (v := P i 3) hx hb hK hP hqc ht0 (rfl) (by omega) (by decide) (by rw [show 24 + i = 8 * 3 + i by omega]; exact hf i hi 3 (by decide)) dX0_covers_57 ?_
        refine lv_iadd hx hb dX0_covers_58 ?_
        refine lv_icmp_ge (tgt := 66) hx hb dX0_covers_59 (by decide) (fun c_59 => ?_) (fun c_59 => ?_)
        · have c_59n := Int32.not_lt.mpr c_59
          refine lv_iconst (v := 0) hx hb dX0_covers_66 (by decide) ?_
          exact rd_zret hx hb hr hlocks dX0_covers_67 (by simp [gCov, bI, c_19, c_19n, c_35, c_35n, c_42, c_42n, c_59, c_59n])
        · have c_59n := Int32.not_le.mp c_59
          refine lv_iconst (v := 1) hx hb dX0_covers_62 (by decide) ?_
          refine lv_goto (tgt := 67) hx hb dX0_covers_63 (by decide) ?_
          exact rd_zret hx hb hr hlocks dX0_covers_67 (by simp [gCov, bI, c_19, c_19n, c_35, c_35n, c_42, c_42n, c_59, c_59n])
set_option maxHeartbeats 4000000 in
set_option maxRecDepth 100000 in
theorem c_X0_pointOn (l : Launch) (D : va_G) {w : va_W} {tys : List (ClassId × FieldType)} {ob n : Nat} {P : Nat → Nat → Int32} (hbd : bd_in w tys ob n P) (x y : Int32) : rd_M l yX0_pointOn wsX0_pointOn ({ frames := 0, cells := 0, slots := 0, locals := 0 } : Room) D w tys [.ref ob, .int x, .int y] (gPt n P x y) := by
  obtain ⟨qb, qc, t0, oc, cI, f, hqb, hqc, ht0, hn8, hf⟩ := id hbd
  refine rd_of (cc := cX0_pointOn) (maxL := 4) (ret := some .int) (by decide) rfl (Nat.le_of_ble_eq_true rfl) ?_
  intro p e s m below meth c hx hb hr hml hts hown hlocks hP hK hN ls hl
  have hown : s.vm.findClass RX0 = some m.cls := hown
  have hl : lv_has ls 4 [(0, .ref ob), (1, .int x), (2, .int y)] := hl
  have hw15 := hts (.fieldLink RX0 15 "CornerLabels$Board" "points" "I") (by decide +kernel)
  have hinX0 : ∀ w ∈ u_ws RX0 TX0 2, w ∈ wsX0_pointOn := by decide +kernel
  have hw11 := hts (.fieldLink RX0 11 "CornerLabels$Board" "cells" "[I") (by decide +kernel)
  refine lv_iconst (v := 0) hx hb dX0_pointOn_0 (by decide) ?_
  refine lv_istore_n (lv' := [(3, .int 0), (0, .ref ob), (1, .int x), (2, .int y)]) hx hb dX0_pointOn_1 rfl hl (by decide) rfl (fun ls hl => ?_)
  suffices loop2 : ∀ (k2 i : Nat) (ls : Array Slot), i ≤ n → n + 1 ≤ i + k2 → (gPt n P x y = gS n (fun i => decide (P i 0 = x ∧ P i 1 = y)) nI (-1) i) → lv_has ls 4 [(0, .ref ob), (1, .int x), (2, .int y), (3, .int (nI i))] → rd_W p l e wsX0_pointOn ({ frames := 0, cells := 0, slots := 0, locals := 0 } : Room) s m [.ref ob, .int x, .int y] below meth c (gPt n P x y) (F0 m 2 ls []) from
    loop2 (n + 1) 0 ls (by omega) (by omega) (by rfl) (lv_sub hl [1, 2, 3, 0] rfl)
  intro k2
  induction k2 with
  | zero => intro i ls h1 h2; exact absurd h2 (by omega)
  | succ k2 ih2 =>
    intro i ls hle2 hlt2 inv2 hl
    refine lv_iload_n hx hb dX0_pointOn_2 rfl (lv_at hl 3 rfl) ?_
    refine lv_aload_n hx hb dX0_pointOn_3 rfl (lv_at hl 0 rfl) ?_
    refine va_get (D := D) (ci := 0) (v := .int (nI n)) (C := RX0) (T := TX0) (N := 2) hx hb hts hinX0 hown hK hP qb hqb rfl 1 (by decide) hw15 (fun _ h9 => h9) rfl dX0_pointOn_4 ?_
    refine rd_icmp_ge_n (a := i) (b := n) (tgt := 43) (by omega) (by omega) hx hb dX0_pointOn_7 (by decide) (fun c_7 => ?_) (fun c_7 => ?_)
    · have c_7n := Nat.not_lt.mpr c_7
      refine lv_iconst (v := (-1)) hx hb dX0_pointOn_43 (by decide) ?_
      exact rd_iret hx hb hr hlocks dX0_pointOn_44 (by rw [inv2, gS_end c_7])
    · have c_7n := Nat.not_le.mpr c_7
      refine lv_aload_n hx hb dX0_pointOn_10 rfl (lv_at hl 0 rfl) ?_
      refine va_get (D := D) (ci := 0) (v := .ref oc) (C := RX0) (T := TX0) (N := 2) hx hb hts hinX0 hown hK hP qb hqb rfl 0 (by decide) hw11 (fun _ h9 => h9) rfl dX0_pointOn_11 ?_
      refine lv_iconst (v := 0) hx hb dX0_pointOn_14 (by decide) ?_
      refine lv_iload_n hx hb dX0_pointOn_15 rfl (lv_at hl 3 rfl) ?_
      refine lv_iadd hx hb dX0_pointOn_16 ?_
      refine lv_asi (y := nI (0 + i)) (nI_add 0 i) ?_
      refine rd_ald (q0 := qc) (t0 := t0) (j := 0 + i) (v := P i 0) hx hb hK hP hqc ht0 (rfl) (by omega) (by decide) (by rw [show 0 + i = 8 * 0 + i by omega]; exact hf i c_7 0 (by decide)) dX0_pointOn_17 ?_
      refine lv_iload_n hx hb dX0_pointOn_18 rfl (lv_at hl 1 rfl) ?_
      refine lv_icmp_ne (tgt := 37) hx hb dX0_pointOn_19 (by decide) (fun c_19 => ?_) (fun c_19 => ?_)
      · refine lv_iinc (v := nI (i + 1)) (lv' := [(3, .int (nI (i + 1))), (0, .ref ob), (1, .int x), (2, .int y)]) hx hb dX0_pointOn_37 hl (k := 3) rfl (nI_add i 1) (by decide) rfl (fun ls hl => ?_)
        refine lv_goto (tgt := 2) hx hb dX0_pointOn_40 (by decide) ?_
        exact ih2 (i + 1) ls (by omega) (by omega) (by rw [inv2, gS_step c_7]; simp [bI, c_7n, c_19]) (lv_sub hl [1, 2, 3, 0] rfl)
      · refine lv_aload_n hx hb dX0_pointOn_22 rfl (lv_at hl 0 rfl) ?_
        refine va_get (D := D) (ci := 0) (v := .ref oc) (C := RX0) (T := TX0) (N := 2) hx hb hts hinX0 hown hK hP qb hqb rfl 0 (by decide) hw11 (fun _ h9 => h9) rfl dX0_pointOn_23 ?_
        refine lv_bipush (v := 8) hx hb dX0_pointOn_26 (by decide) ?_
        refine lv_iload_n hx hb dX0_pointOn_28 rfl (lv_at hl 3 rfl) ?_
        refine lv_iadd hx hb dX0_pointOn_29 ?_
        refine lv_asi (y := nI (8 + i)) (nI_add 8 i) ?_
        refine rd_ald (q0 := qc) (t0 := t0) (j := 8 + i) (v := P i 1) hx hb hK hP hqc ht0 (rfl) (by omega) (by decide) (by rw [show 8 + i = 8 * 1 + i by omega]; exact hf i c_7 1 (by decide)) dX0_pointOn_30 ?_
        refine lv_iload_n hx hb dX0_pointOn_31 rfl (lv_at hl 2 rfl) ?_
        refine lv_icmp_ne (tgt := 37) hx hb dX0_pointOn_32 (by decide) (fun c_32 => ?_) (fun c_32 => ?_)
        · refine lv_iinc (v := nI (i + 1)) (lv' := [(3, .int (nI (i + 1))), (0, .ref ob), (1, .int x), (2, .int y)]) hx hb dX0_pointOn_37 hl (k := 3) rfl (nI_add i 1) (by decide) rfl (fun ls hl => ?_)
          refine lv_goto (tgt := 2) hx hb dX0_pointOn_40 (by decide) ?_
          exact ih2 (i + 1) ls (by omega) (by omega) (by rw [inv2, gS_step c_7]; simp [bI, c_7n, c_19, c_32]) (lv_sub hl [1, 2, 3, 0] rfl)
        · refine lv_iload_n hx hb dX0_pointOn_35 rfl (lv_at hl 3 rfl) ?_
          exact rd_iret hx hb hr hlocks dX0_pointOn_36 (by rw [inv2, gS_step c_7]; simp [bI, c_7n, c_19, c_32])
set_option maxHeartbeats 4000000 in
set_option maxRecDepth 100000 in
theorem c_X0_labelOn (l : Launch) (D : va_G) {w : va_W} {tys : List (ClassId × FieldType)} {ob n : Nat} {P : Nat → Nat → Int32} (hbd : bd_in w tys ob n P) (x y : Int32) : rd_M l yX0_labelOn wsX0_labelOn ({ frames := 2, cells := 0, slots := 0, locals := 49 } : Room) D w tys [.ref ob, .int x, .int y] (gLb n P x y) := by
  obtain ⟨qb, qc, t0, oc, cI, f, hqb, hqc, ht0, hn8, hf⟩ := id hbd
  refine rd_of (cc := cX0_labelOn) (maxL := 4) (ret := some .int) (by decide) rfl (Nat.le_of_ble_eq_true rfl) ?_
  intro p e s m below meth c hx hb hr hml hts hown hlocks hP hK hN ls hl
  have hown : s.vm.findClass RX0 = some m.cls := hown
  have hl : lv_has ls 4 [(0, .ref ob), (1, .int x), (2, .int y)] := hl
  have hw15 := hts (.fieldLink RX0 15 "CornerLabels$Board" "points" "I") (by decide +kernel)
  have hinX0 : ∀ w ∈ u_ws RX0 TX0 2, w ∈ wsX0_labelOn := by decide +kernel
  have hw11 := hts (.fieldLink RX0 11 "CornerLabels$Board" "cells" "[I") (by decide +kernel)
  refine lv_iconst (v := 0) hx hb dX0_labelOn_0 (by decide) ?_
  refine lv_istore_n (lv' := [(3, .int 0), (0, .ref ob), (1, .int x), (2, .int y)]) hx hb dX0_labelOn_1 rfl hl (by decide) rfl (fun ls hl => ?_)
  suffices loop2 : ∀ (k2 i : Nat) (ls : Array Slot), i ≤ n → n + 1 ≤ i + k2 → (gLb n P x y = gS n (fun i => gSt P i && gCov P i (P i 5) x y) nI (-1) i) → lv_has ls 4 [(0, .ref ob), (1, .int x), (2, .int y), (3, .int (nI i))] → rd_W p l e wsX0_labelOn ({ frames := 2, cells := 0, slots := 0, locals := 49 } : Room) s m [.ref ob, .int x, .int y] below meth c (gLb n P x y) (F0 m 2 ls []) from
    loop2 (n + 1) 0 ls (by omega) (by omega) (by rfl) (lv_sub hl [1, 2, 3, 0] rfl)
  intro k2
  induction k2 with
  | zero => intro i ls h1 h2; exact absurd h2 (by omega)
  | succ k2 ih2 =>
    intro i ls hle2 hlt2 inv2 hl
    refine lv_iload_n hx hb dX0_labelOn_2 rfl (lv_at hl 3 rfl) ?_
    refine lv_aload_n hx hb dX0_labelOn_3 rfl (lv_at hl 0 rfl) ?_
    refine va_get (D := D) (ci := 0) (v := .int (nI n)) (C := RX0) (T := TX0) (N := 2) hx hb hts hinX0 hown hK hP qb hqb rfl 1 (by decide) hw15 (fun _ h9 => h9) rfl dX0_labelOn_4 ?_
    refine rd_icmp_ge_n (a := i) (b := n) (tgt := 45) (by omega) (by omega) hx hb dX0_labelOn_7 (by decide) (fun c_7 => ?_) (fun c_7 => ?_)
    · have c_7n := Nat.not_lt.mpr c_7
      refine lv_iconst (v := (-1)) hx hb dX0_labelOn_45 (by decide) ?_
      exact rd_iret hx hb hr hlocks dX0_labelOn_46 (by rw [inv2, gS_end c_7])
    · have c_7n := Nat.not_le.mpr c_7
      refine lv_aload_n hx hb dX0_labelOn_10 rfl (lv_at hl 0 rfl) ?_
      refine lv_iload_n hx hb dX0_labelOn_11 rfl (lv_at hl 3 rfl) ?_
      refine rd_callV (As := [.int (nI i)]) (rest := []) ⟨hx, hb, hml, hown, hts⟩ (c_X0_stands l D hbd c_7) (cwV 1 hts gX0_labelOn_X0_stands rfl rfl rfl (by decide +kernel) ⟨by decide, by decide⟩) hK hN hP hqb rfl rfl hl.1 rfl (Nat.le_of_ble_eq_true rfl) ⟨by decide, by decide⟩ dX0_labelOn_12 ?_
      refine rd_ifeq_b (tgt := 39) hx hb dX0_labelOn_15 (by decide) (fun c_15 => ?_) (fun c_15 => ?_)
      · refine lv_iinc (v := nI (i + 1)) (lv' := [(3, .int (nI (i + 1))), (0, .ref ob), (1, .int x), (2, .int y)]) hx hb dX0_labelOn_39 hl (k := 3) rfl (nI_add i 1) (by decide) rfl (fun ls hl => ?_)
        refine lv_goto (tgt := 2) hx hb dX0_labelOn_42 (by decide) ?_
        exact ih2 (i + 1) ls (by omega) (by omega) (by rw [inv2, gS_step c_7]; simp [bI, c_7n, c_15]) (lv_sub hl [1, 2, 3, 0] rfl)
      · refine lv_aload_n hx hb dX0_labelOn_18 rfl (lv_at hl 0 rfl) ?_
        refine lv_iload_n hx hb dX0_labelOn_19 rfl (lv_at hl 3 rfl) ?_
        refine lv_aload_n hx hb dX0_labelOn_20 rfl (lv_at hl 0 rfl) ?_
        refine va_get (D := D) (ci := 0) (v := .ref oc) (C := RX0) (T := TX0) (N := 2) hx hb hts hinX0 hown hK hP qb hqb rfl 0 (by decide) hw11 (fun _ h9 => h9) rfl dX0_labelOn_21 ?_
        refine lv_bipush (v := 40) hx hb dX0_labelOn_24 (by decide) ?_
        refine lv_iload_n hx hb dX0_labelOn_26 rfl (lv_at hl 3 rfl) ?_
        refine lv_iadd hx hb dX0_labelOn_27 ?_
        refine lv_asi (y := nI (40 + i)) (nI_add 40 i) ?_
        refine rd_ald (q0 := qc) (t0 := t0) (j := 40 + i) (v := P i 5) hx hb hK hP hqc ht0 (rfl) (by omega) (by decide) (by rw [show 40 + i = 8 * 5 + i by omega]; exact hf i c_7 5 (by decide)) dX0_labelOn_28 ?_
        refine lv_iload_n hx hb dX0_labelOn_29 rfl (lv_at hl 1 rfl) ?_
        refine lv_iload_n hx hb dX0_labelOn_30 rfl (lv_at hl 2 rfl) ?_
        refine rd_callV (As := [.int (nI i), .int (P i 5), .int x, .int y]) (rest := []) ⟨hx, hb, hml, hown, hts⟩ (c_X0_covers l D hbd c_7 (P i 5) x y) (cwV 4 hts gX0_labelOn_X0_covers rfl rfl rfl (by decide +kernel) ⟨by decide, by decide⟩) hK hN hP hqb rfl rfl hl.1 rfl (Nat.le_of_ble_eq_true rfl) ⟨by decide, by decide⟩ dX0_labelOn_31 ?_
        refine rd_ifeq_b (tgt := 39) hx hb dX0_labelOn_34 (by decide) (fun c_34 => ?_) (fun c_34 => ?_)
        · refine lv_iinc (v := nI (i + 1)) (lv' := [(3, .int (nI (i + 1))), (0, .ref ob), (1, .int x), (2, .int y)]) hx hb dX0_labelOn_39 hl (k := 3) rfl (nI_add i 1) (by decide) rfl (fun ls hl => ?_)
          refine lv_goto (tgt := 2) hx hb dX0_labelOn_42 (by decide) ?_
          exact ih2 (i + 1) ls (by omega) (by omega) (by rw [inv2, gS_step c_7]; simp [bI, c_7n, c_15, c_34]) (lv_sub hl [1, 2, 3, 0] rfl)
        · refine lv_iload_n hx hb dX0_labelOn_37 rfl (lv_at hl 3 rfl) ?_
          exact rd_iret hx hb hr hlocks dX0_labelOn_38 (by rw [inv2, gS_step c_7]; simp [bI, c_7n, c_15, c_34])
set_option maxHeartbeats 4000000 in
set_option maxRecDepth 100000 in
theorem c_X0_takesPointOn (l : Launch) (D : va_G) {w : va_W} {tys : List (ClassId × FieldType)} {ob n : Nat} {P : Nat → Nat → Int32} (hbd : bd_in w tys ob n P) (x y : Int32) : rd_M l yX0_takesPointOn wsX0_takesPointOn ({ frames := 1, cells := 0, slots := 0, locals := 23 } : Room) D w tys [.ref ob, .int x, .int y] (bI (gTk n P x y)) := by
  obtain ⟨qb, qc, t0, oc, cI, f, hqb, hqc, ht0, hn8, hf⟩ := id hbd
  refine rd_of (cc := cX0_takesPointOn) (maxL := 3) (ret := some .boolean) (by decide) rfl (Nat.le_of_ble_eq_true rfl) ?_
  intro p e s m below meth c hx hb hr hml hts hown hlocks hP hK hN ls hl
  have hown : s.vm.findClass RX0 = some m.cls := hown
  have hl : lv_has ls 3 [(0, .ref ob), (1, .int x), (2, .int y)] := hl
  have hw15 := hts (.fieldLink RX0 15 "CornerLabels$Board" "points" "I") (by decide +kernel)
  have hinX0 : ∀ w ∈ u_ws RX0 TX0 2, w ∈ wsX0_takesPointOn := by decide +kernel
  refine lv_aload_n hx hb dX0_takesPointOn_0 rfl (lv_at hl 0 rfl) ?_
  refine va_get (D := D) (ci := 0) (v := .int (nI n)) (C := RX0) (T := TX0) (N := 2) hx hb hts hinX0 hown hK hP qb hqb rfl 1 (by decide) hw15 (fun _ h9 => h9) rfl dX0_takesPointOn_1 ?_
  refine lv_bipush (v := 8) hx hb dX0_takesPointOn_4 (by decide) ?_
  refine rd_icmp_ge_n (a := n) (b := 8) (tgt := 23) (by omega) (by omega) hx hb dX0_takesPointOn_6 (by decide) (fun c_6 => ?_) (fun c_6 => ?_)
  · have c_6n := Nat.not_lt.mpr c_6
    refine lv_iconst (v := 0) hx hb dX0_takesPointOn_23 (by decide) ?_
    exact rd_zret hx hb hr hlocks dX0_takesPointOn_24 (by simp [gTk, bI, c_6, c_6n])
  · have c_6n := Nat.not_le.mpr c_6
    refine lv_aload_n hx hb dX0_takesPointOn_9 rfl (lv_at hl 0 rfl) ?_
    refine lv_iload_n hx hb dX0_takesPointOn_10 rfl (lv_at hl 1 rfl) ?_
    refine lv_iload_n hx hb dX0_takesPointOn_11 rfl (lv_at hl 2 rfl) ?_
    refine rd_callV (As := [.int x, .int y]) (rest := []) ⟨hx, hb, hml, hown, hts⟩ (c_X0_pointOn l D hbd x y) (cwV 2 hts gX0_takesPointOn_X0_pointOn rfl rfl rfl (by decide +kernel) ⟨by decide, by decide⟩) hK hN hP hqb rfl rfl hl.1 rfl (Nat.le_of_ble_eq_true rfl) ⟨by decide, by decide⟩ dX0_takesPointOn_12 ?_
    refine lv_iconst (v := (-1)) hx hb dX0_takesPointOn_15 (by decide) ?_
    refine lv_icmp_ne (tgt := 23) hx hb dX0_takesPointOn_16 (by decide) (fun c_16 => ?_) (fun c_16 => ?_)
    · refine lv_iconst (v := 0) hx hb dX0_takesPointOn_23 (by decide) ?_
      exact rd_zret hx hb hr hlocks dX0_takesPointOn_24 (by simp [gTk, bI, c_6, c_6n, c_16])
    · refine lv_iconst (v := 1) hx hb dX0_takesPointOn_19 (by decide) ?_
      refine lv_goto (tgt := 24) hx hb dX0_takesPointOn_20 (by decide) ?_
      exact rd_zret hx hb hr hlocks dX0_takesPointOn_24 (by simp [gTk, bI, c_6, c_6n, c_16])
set_option maxHeartbeats 4000000 in
set_option maxRecDepth 100000 in
theorem c_X0_isOpen (l : Launch) (D : va_G) {w : va_W} {tys : List (ClassId × FieldType)} {ob n : Nat} {P : Nat → Nat → Int32} (hbd : bd_in w tys ob n P) {i : Nat} (hi : i < n) (k : Int32) : rd_M l yX0_isOpen wsX0_isOpen ({ frames := 1, cells := 0, slots := 0, locals := 23 } : Room) D w tys [.ref ob, .int (nI i), .int k] (bI (gOp n P i k)) := by
  obtain ⟨qb, qc, t0, oc, cI, f, hqb, hqc, ht0, hn8, hf⟩ := id hbd
  refine rd_of (cc := cX0_isOpen) (maxL := 10) (ret := some .boolean) (by decide) rfl (Nat.le_of_ble_eq_true rfl) ?_
  intro p e s m below meth c hx hb hr hml hts hown hlocks hP hK hN ls hl
  have hown : s.vm.findClass RX0 = some m.cls := hown
  have hl : lv_has ls 10 [(0, .ref ob), (1, .int (nI i)), (2, .int k)] := hl
  have hw11 := hts (.fieldLink RX0 11 "CornerLabels$Board" "cells" "[I") (by decide +kernel)
  have hinX0 : ∀ w ∈ u_ws RX0 TX0 2, w ∈ wsX0_isOpen := by decide +kernel
  have hw15 := hts (.fieldLink RX0 15 "CornerLabels$Board" "points" "I") (by decide +kernel)
  refine lv_aload_n hx hb dX0_isOpen_0 rfl (lv_at hl 0 rfl) ?_
  refine lv_iload_n hx hb dX0_isOpen_1 rfl (lv_at hl 1 rfl) ?_
  refine lv_iload_n hx hb dX0_isOpen_2 rfl (lv_at hl 2 rfl) ?_
  refine rd_callV (As := [.int (nI i), .int k]) (rest := []) ⟨hx, hb, hml, hown, hts⟩ (c_X0_left l D hbd hi k) (cwV 2 hts gX0_isOpen_X0_left rfl rfl rfl (by decide +kernel) ⟨by decide, by decide⟩) hK hN hP hqb rfl rfl hl.1 rfl (Nat.le_of_ble_eq_true rfl) ⟨by decide, by decide⟩ dX0_isOpen_3 ?_
  refine lv_istore_n (lv' := [(3, .int (gL P i k)), (0, .ref ob), (1, .int (nI i)), (2, .int k)]) hx hb dX0_isOpen_6 rfl hl (by decide) rfl (fun ls hl => ?_)
  refine lv_iload_n hx hb dX0_isOpen_7 rfl (lv_at hl 0 rfl) ?_
  refine lv_aload_n hx hb dX0_isOpen_8 rfl (lv_at hl 1 rfl) ?_
  refine va_get (D := D) (ci := 0) (v := .ref oc) (C := RX0) (T := TX0) (N := 2) hx hb hts hinX0 hown hK hP qb hqb rfl 0 (by decide) hw11 (fun _ h9 => h9) rfl dX0_isOpen_9 ?_
  refine lv_bipush (v := 16) hx hb dX0_isOpen_12 (by decide) ?_
  refine lv_iload_n hx hb dX0_isOpen_14 rfl (lv_at hl 2 rfl) ?_
  refine lv_iadd hx hb dX0_isOpen_15 ?_
  refine lv_asi (y := nI (16 + i)) (nI_add 16 i) ?_
  refine rd_ald (q0 := qc) (t0 := t0) (j := 16 + i) (v := P i 2) hx hb hK hP hqc ht0 (rfl) (by omega) (by decide) (by rw [show 16 + i = 8 * 2 + i by omega]; exact hf i hi 2 (by decide)) dX0_isOpen_16 ?_
  refine lv_iadd hx hb dX0_isOpen_17 ?_
  refine lv_iconst (v := 1) hx hb dX0_isOpen_18 (by decide) ?_
  refine lv_isub hx hb dX0_isOpen_19 ?_
  refine lv_istore (lv' := [(4, .int (((gL P i k) + (P i 2)) - 1)), (3, .int (gL P i k)), (0, .ref ob), (1, .int (nI i)), (2, .int k)]) hx hb dX0_isOpen_20 hl (by decide) rfl (fun ls hl => ?_)
  refine lv_aload_n hx hb dX0_isOpen_22 rfl (lv_at hl 2 rfl) ?_
  refine lv_iload_n hx hb dX0_isOpen_23 rfl (lv_at hl 3 rfl) ?_
  refine lv_iload_n hx hb dX0_isOpen_24 rfl (lv_at hl 4 rfl) ?_
  refine rd_callV (As := [.int (nI i), .int k]) (rest := []) ⟨hx, hb, hml, hown, hts⟩ (c_X0_top l D hbd hi k) (cwV 2 hts gX0_isOpen_X0_top rfl rfl rfl (by decide +kernel) ⟨by decide, by decide⟩) hK hN hP hqb rfl rfl hl.1 rfl (Nat.le_of_ble_eq_true rfl) ⟨by decide, by decide⟩ dX0_isOpen_25 ?_
  refine lv_istore (lv' := [(5, .int (gT P i k)), (4, .int (((gL P i k) + (P i 2)) - 1)), (3, .int (gL P i k)), (0, .ref ob), (1, .int (nI i)), (2, .int k)]) hx hb dX0_isOpen_28 hl (by decide) rfl (fun ls hl => ?_)
  refine lv_iload hx hb dX0_isOpen_30 (lv_at hl 0 rfl) ?_
  refine lv_aload_n hx hb dX0_isOpen_32 rfl (lv_at hl 3 rfl) ?_
  refine va_get (D := D) (ci := 0) (v := .ref oc) (C := RX0) (T := TX0) (N := 2) hx hb hts hinX0 hown hK hP qb hqb rfl 0 (by decide) hw11 (fun _ h9 => h9) rfl dX0_isOpen_33 ?_
  refine lv_bipush (v := 24) hx hb dX0_isOpen_36 (by decide) ?_
  refine lv_iload_n hx hb dX0_isOpen_38 rfl (lv_at hl 4 rfl) ?_
  refine lv_iadd hx hb dX0_isOpen_39 ?_
  refine lv_asi (y := nI (24 + i)) (nI_add 24 i) ?_
  refine rd_ald (q0 := qc) (t0 := t0) (j := 24 + i) (v := P i 3) hx hb hK hP hqc ht0 (rfl) (by omega) (by decide) (by rw [show 24 + i = 8 * 3 + i by omega]; exact hf i hi 3 (by decide)) dX0_isOpen_40 ?_
  refine lv_iadd hx hb dX0_isOpen_41 ?_
  refine lv_iconst (v := 1) hx hb dX0_isOpen_42 (by decide) ?_
  refine lv_isub hx hb dX0_isOpen_43 ?_
  refine lv_istore (lv' := [(6, .int (((gT P i k) + (P i 3)) - 1)), (5, .int (gT P i k)), (4, .int (((gL P i k) + (P i 2)) - 1)), (3, .int (gL P i k)), (0, .ref ob), (1, .int (nI i)), (2, .int k)]) hx hb dX0_isOpen_44 hl (by decide) rfl (fun ls hl => ?_)
  refine lv_iload_n hx hb dX0_isOpen_46 rfl (lv_at hl 3 rfl) ?_
  refine lv_if_lt (tgt := 69) hx hb dX0_isOpen_47 (by decide) (fun c_47 => ?_) (fun c_47 => ?_)
  · have c_47n := Int32.not_le.mpr c_47
    refine lv_iconst (v := 0) hx hb dX0_isOpen_69 (by decide) ?_
    exact rd_zret hx hb hr hlocks dX0_isOpen_70 (by simp [gOp, gOpM, bI, c_47, c_47n])
  · have c_47n := Int32.not_lt.mp c_47
    refine lv_iload hx hb dX0_isOpen_50 (lv_at hl 2 rfl) ?_
    refine lv_bipush (v := 60) hx hb dX0_isOpen_52 (by decide) ?_
    refine lv_icmp_ge (tgt := 69) hx hb dX0_isOpen_54 (by decide) (fun c_54 => ?_) (fun c_54 => ?_)
    · have c_54n := Int32.not_lt.mpr c_54
      refine lv_iconst (v := 0) hx hb dX0_isOpen_69 (by decide) ?_
      exact rd_zret hx hb hr hlocks dX0_isOpen_70 (by simp [gOp, gOpM, bI, c_47, c_47n, c_54, c_54n])
    · have c_54n := Int32.not_le.mp c_54
      refine lv_iload hx hb dX0_isOpen_57 (lv_at hl 1 rfl) ?_
      refine lv_if_lt (tgt := 69) hx hb dX0_isOpen_59 (by decide) (fun c_59 => ?_) (fun c_59 => ?_)
      · have c_59n := Int32.not_le.mpr c_59
        refine lv_iconst (v := 0) hx hb dX0_isOpen_69 (by decide) ?_
        exact rd_zret hx hb hr hlocks dX0_isOpen_70 (by simp [gOp, gOpM, bI, c_47, c_47n, c_54, c_54n, c_59, c_59n])
      · have c_59n := Int32.not_lt.mp c_59
        refine lv_iload hx hb dX0_isOpen_62 (lv_at hl 0 rfl) ?_
        refine lv_bipush (v := 40) hx hb dX0_isOpen_64 (by decide) ?_
        refine lv_icmp_lt (tgt := 71) hx hb dX0_isOpen_66 (by decide) (fun c_66 => ?_) (fun c_66 => ?_)
        · have c_66n := Int32.not_le.mpr c_66
          refine lv_iconst (v := 0) hx hb dX0_isOpen_71 (by decide) ?_
          refine lv_istore (lv' := [(7, .int 0), (6, .int (((gT P i k) + (P i 3)) - 1)), (5, .int (gT P i k)), (4, .int (((gL P i k) + (P i 2)) - 1)), (3, .int (gL P i k)), (0, .ref ob), (1, .int (nI i)), (2, .int k)]) hx hb dX0_isOpen_72 hl (by decide) rfl (fun ls hl => ?_)
          suffices loop74 : ∀ (k74 j : Nat) (ls : Array Slot), j ≤ n → n + 1 ≤ j + k74 → (gOp n P i k = !gE n (gHit P i k) j) → lv_has ls 10 [(0, .ref ob), (1, .int (nI i)), (2, .int k), (3, .int (gL P i k)), (4, .int (((gL P i k) + (P i 2)) - 1)), (5, .int (gT P i k)), (6, .int (((gT P i k) + (P i 3)) - 1)), (7, .int (nI j))] → rd_W p l e wsX0_isOpen ({ frames := 1, cells := 0, slots := 0, locals := 23 } : Room) s m [.ref ob, .int (nI i), .int k] below meth c (bI (gOp n P i k)) (F0 m 74 ls []) from
            loop74 (n + 1) 0 ls (by omega) (by omega) (by simp [gOp, gOpM, c_47, c_47n, c_54, c_54n, c_59, c_59n, c_66, c_66n]) (lv_sub hl [5, 6, 7, 4, 3, 2, 1, 0] rfl)
          intro k74
          induction k74 with
          | zero => intro j ls h1 h2; exact absurd h2 (by omega)
          | succ k74 ih74 =>
            intro j ls hle74 hlt74 inv74 hl
            refine lv_iload hx hb dX0_isOpen_74 (lv_at hl 7 rfl) ?_
            refine lv_aload_n hx hb dX0_isOpen_76 rfl (lv_at hl 0 rfl) ?_
            refine va_get (D := D) (ci := 0) (v := .int (nI n)) (C := RX0) (T := TX0) (N := 2) hx hb hts hinX0 hown hK hP qb hqb rfl 1 (by decide) hw15 (fun _ h9 => h9) rfl dX0_isOpen_77 ?_
            refine rd_icmp_ge_n (a := j) (b := n) (tgt := 141) (by omega) (by omega) hx hb dX0_isOpen_80 (by decide) (fun c_80 => ?_) (fun c_80 => ?_)
            · have c_80n := Nat.not_lt.mpr c_80
              refine lv_iconst (v := 1) hx hb dX0_isOpen_141 (by decide) ?_
              exact rd_zret hx hb hr hlocks dX0_isOpen_142 (by rw [inv74, gE_end c_80]; rfl)
            · have c_80n := Nat.not_le.mpr c_80
              refine lv_aload_n hx hb dX0_isOpen_83 rfl (lv_at hl 0 rfl) ?_
              refine va_get (D := D) (ci := 0) (v := .ref oc) (C := RX0) (T := TX0) (N := 2) hx hb hts hinX0 hown hK hP qb hqb rfl 0 (by decide) hw11 (fun _ h9 => h9) rfl dX0_isOpen_84 ?_
              refine lv_iconst (v := 0) hx hb dX0_isOpen_87 (by decide) ?_
              refine lv_iload hx hb dX0_isOpen_88 (lv_at hl 7 rfl) ?_
              refine lv_iadd hx hb dX0_isOpen_90 ?_
              refine lv_asi (y := nI (0 + j)) (nI_add 0 j) ?_
              refine rd_ald (q0 := qc) (t0 := t0) (j := 0 + j) (v := P j 0) hx hb hK hP hqc ht0 (rfl) (by omega) (by decide) (by rw [show 0 + j = 8 * 0 + j by omega]; exact hf j c_80 0 (by decide)) dX0_isOpen_91 ?_
              refine lv_istore (lv' := [(8, .int (P j 0)), (0, .ref ob), (1, .int (nI i)), (2, .int k), (3, .int (gL P i k)), (4, .int (((gL P i k) + (P i 2)) - 1)), (5, .int (gT P i k)), (6, .int (((gT P i k) + (P i 3)) - 1)), (7, .int (nI j))]) hx hb dX0_isOpen_92 hl (by decide) rfl (fun ls hl => ?_)
              refine lv_aload_n hx hb dX0_isOpen_94 rfl (lv_at hl 1 rfl) ?_
              refine va_get (D := D) (ci := 0) (v := .ref oc) (C := RX0) (T := TX0) (N := 2) hx hb hts hinX0 hown hK hP qb hqb rfl 0 (by decide) hw11 (fun _ h9 => h9) rfl dX0_isOpen_95 ?_
              refine lv_bipush (v := 8) hx hb dX0_isOpen_98 (by decide) ?_
              refine lv_iload hx hb dX0_isOpen_100 (lv_at hl 8 rfl) ?_
              refine lv_iadd hx hb dX0_isOpen_102 ?_
              refine lv_asi (y := nI (8 + j)) (nI_add 8 j) ?_
              refine rd_ald (q0 := qc) (t0 := t0) (j := 8 + j) (v := P j 1) hx hb hK hP hqc ht0 (rfl) (by omega) (by decide) (by rw [show 8 + j = 8 * 1 + j by omega]; exact hf j c_80 1 (by decide)) dX0_isOpen_103 ?_
              refine lv_istore (lv' := [(9, .int (P j 1)), (8, .int (P j 0)), (0, .ref ob), (1, .int (nI i)), (2, .int k), (3, .int (gL P i k)), (4, .int (((gL P i k) + (P i 2)) - 1)), (5, .int (gT P i k)), (6, .int (((gT P i k) + (P i 3)) - 1)), (7, .int (nI j))]) hx hb dX0_isOpen_104 hl (by decide) rfl (fun ls hl => ?_)
              refine lv_iload hx hb dX0_isOpen_106 (lv_at hl 1 rfl) ?_
              refine lv_iload_n hx hb dX0_isOpen_108 rfl (lv_at hl 5 rfl) ?_
              refine lv_icmp_lt (tgt := 135) hx hb dX0_isOpen_109 (by decide) (fun c_109 => ?_) (fun c_109 => ?_)
              · have c_109n := Int32.not_le.mpr c_109
                refine lv_iinc (v := nI (j + 1)) (lv' := [(7, .int (nI (j + 1))), (9, .int (P j 1)), (8, .int (P j 0)), (0, .ref ob), (1, .int (nI i)), (2, .int k), (3, .int (gL P i k)), (4, .int (((gL P i k) + (P i 2)) - 1)), (5, .int (gT P i k)), (6, .int (((gT P i k) + (P i 3)) - 1))]) hx hb dX0_isOpen_135 hl (k := 9) rfl (nI_add j 1) (by decide) rfl (fun ls hl => ?_)
                refine lv_goto (tgt := 74) hx hb dX0_isOpen_138 (by decide) ?_
                exact ih74 (j + 1) ls (by omega) (by omega) (by rw [inv74, gE_step c_80]; simp [gHit, bI, c_47, c_47n, c_54, c_54n, c_59, c_59n, c_66, c_66n, c_80n, c_109, c_109n]) (lv_sub hl [3, 4, 5, 6, 7, 8, 9, 0] rfl)
              · have c_109n := Int32.not_lt.mp c_109
                refine lv_iload hx hb dX0_isOpen_112 (lv_at hl 1 rfl) ?_
                refine lv_iload hx hb dX0_isOpen_114 (lv_at hl 6 rfl) ?_
                refine lv_icmp_gt (tgt := 135) hx hb dX0_isOpen_116 (by decide) (fun c_116 => ?_) (fun c_116 => ?_)
                · have c_116n := Int32.not_le.mpr c_116
                  refine lv_iinc (v := nI (j + 1)) (lv' := [(7, .int (nI (j + 1))), (9, .int (P j 1)), (8, .int (P j 0)), (0, .ref ob), (1, .int (nI i)), (2, .int k), (3, .int (gL P i k)), (4, .int (((gL P i k) + (P i 2)) - 1)), (5, .int (gT P i k)), (6, .int (((gT P i k) + (P i 3)) - 1))]) hx hb dX0_isOpen_135 hl (k := 9) rfl (nI_add j 1) (by decide) rfl (fun ls hl => ?_)
                  refine lv_goto (tgt := 74) hx hb dX0_isOpen_138 (by decide) ?_
                  exact ih74 (j + 1) ls (by omega) (by omega) (by rw [inv74, gE_step c_80]; simp [gHit, bI, c_47, c_47n, c_54, c_54n, c_59, c_59n, c_66, c_66n, c_80n, c_109, c_109n, c_116, c_116n]) (lv_sub hl [3, 4, 5, 6, 7, 8, 9, 0] rfl)
                · have c_116n := Int32.not_lt.mp c_116
                  refine lv_iload hx hb dX0_isOpen_119 (lv_at hl 0 rfl) ?_
                  refine lv_iload hx hb dX0_isOpen_121 (lv_at hl 7 rfl) ?_
                  refine lv_icmp_lt (tgt := 135) hx hb dX0_isOpen_123 (by decide) (fun c_123 => ?_) (fun c_123 => ?_)
                  · have c_123n := Int32.not_le.mpr c_123
                    refine lv_iinc (v := nI (j + 1)) (lv' := [(7, .int (nI (j + 1))), (9, .int (P j 1)), (8, .int (P j 0)), (0, .ref ob), (1, .int (nI i)), (2, .int k), (3, .int (gL P i k)), (4, .int (((gL P i k) + (P i 2)) - 1)), (5, .int (gT P i k)), (6, .int (((gT P i k) + (P i 3)) - 1))]) hx hb dX0_isOpen_135 hl (k := 9) rfl (nI_add j 1) (by decide) rfl (fun ls hl => ?_)
                    refine lv_goto (tgt := 74) hx hb dX0_isOpen_138 (by decide) ?_
                    exact ih74 (j + 1) ls (by omega) (by omega) (by rw [inv74, gE_step c_80]; simp [gHit, bI, c_47, c_47n, c_54, c_54n, c_59, c_59n, c_66, c_66n, c_80n, c_109, c_109n, c_116, c_116n, c_123, c_123n]) (lv_sub hl [3, 4, 5, 6, 7, 8, 9, 0] rfl)
                  · have c_123n := Int32.not_lt.mp c_123
                    refine lv_iload hx hb dX0_isOpen_126 (lv_at hl 0 rfl) ?_
                    refine lv_iload hx hb dX0_isOpen_128 (lv_at hl 8 rfl) ?_
                    refine lv_icmp_gt (tgt := 135) hx hb dX0_isOpen_130 (by decide) (fun c_130 => ?_) (fun c_130 => ?_)
                    · have c_130n := Int32.not_le.mpr c_130
                      refine lv_iinc (v := nI (j + 1)) (lv' := [(7, .int (nI (j + 1))), (9, .int (P j 1)), (8, .int (P j 0)), (0, .ref ob), (1, .int (nI i)), (2, .int k), (3, .int (gL P i k)), (4, .int (((gL P i k) + (P i 2)) - 1)), (5, .int (gT P i k)), (6, .int (((gT P i k) + (P i 3)) - 1))]) hx hb dX0_isOpen_135 hl (k := 9) rfl (nI_add j 1) (by decide) rfl (fun ls hl => ?_)
                      refine lv_goto (tgt := 74) hx hb dX0_isOpen_138 (by decide) ?_
                      exact ih74 (j + 1) ls (by omega) (by omega) (by rw [inv74, gE_step c_80]; simp [gHit, bI, c_47, c_47n, c_54, c_54n, c_59, c_59n, c_66, c_66n, c_80n, c_109, c_109n, c_116, c_116n, c_123, c_123n, c_130, c_130n]) (lv_sub hl [3, 4, 5, 6, 7, 8, 9, 0] rfl)
                    · have c_130n := Int32.not_lt.mp c_130
                      refine lv_iconst (v := 0) hx hb dX0_isOpen_133 (by decide) ?_
                      exact rd_zret hx hb hr hlocks dX0_isOpen_134 (by rw [inv74, gE_step c_80]; simp [gHit, bI, c_47, c_47n, c_54, c_54n, c_59, c_59n, c_66, c_66n, c_80n, c_109, c_109n, c_116, c_116n, c_123, c_123n, c_130, c_130n])
        · have c_66n := Int32.not_lt.mp c_66
          refine lv_iconst (v := 0) hx hb dX0_isOpen_69 (by decide) ?_
          exact rd_zret hx hb hr hlocks dX0_isOpen_70 (by simp [gOp, gOpM, bI, c_47, c_47n, c_54, c_54n, c_59, c_59n, c_66, c_66n])
set_option maxHeartbeats 4000000 in
set_option maxRecDepth 100000 in
theorem c_X0_openMask (l : Launch) (D : va_G) {w : va_W} {tys : List (ClassId × FieldType)} {ob n : Nat} {P : Nat → Nat → Int32} (hbd : bd_in w tys ob n P) {i : Nat} (hi : i < n) : rd_M l yX0_openMask wsX0_openMask ({ frames := 2, cells := 0, slots := 0, locals := 52 } : Room) D w tys [.ref ob, .int (nI i)] (gMk n P i) := by
  obtain ⟨qb, qc, t0, oc, cI, f, hqb, hqc, ht0, hn8, hf⟩ := id hbd
  refine rd_of (cc := cX0_openMask) (maxL := 4) (ret := some .int) (by decide) rfl (Nat.le_of_ble_eq_true rfl) ?_
  intro p e s m below meth c hx hb hr hml hts hown hlocks hP hK hN ls hl
  have hown : s.vm.findClass RX0 = some m.cls := hown
  have hl : lv_has ls 4 [(0, .ref ob), (1, .int (nI i))] := hl
  refine lv_iconst (v := 0) hx hb dX0_openMask_0 (by decide) ?_
  refine lv_istore_n (lv' := [(2, .int 0), (0, .ref ob), (1, .int (nI i))]) hx hb dX0_openMask_1 rfl hl (by decide) rfl (fun ls hl => ?_)
  refine lv_iconst (v := 0) hx hb dX0_openMask_2 (by decide) ?_
  refine lv_istore_n (lv' := [(3, .int 0), (2, .int 0), (0, .ref ob), (1, .int (nI i))]) hx hb dX0_openMask_3 rfl hl (by decide) rfl (fun ls hl => ?_)
  suffices loop4 : ∀ (k4 k : Nat) (a : Int32) (ls : Array Slot), k ≤ 4 → 4 + 1 ≤ k + k4 → (gMk n P i = gF 4 (gMkF n P i) k a) → lv_has ls 4 [(0, .ref ob), (1, .int (nI i)), (2, .int a), (3, .int (nI k))] → rd_W p l e wsX0_openMask ({ frames := 2, cells := 0, slots := 0, locals := 52 } : Room) s m [.ref ob, .int (nI i)] below meth c (gMk n P i) (F0 m 4 ls []) from
    loop4 (4 + 1) 0 0 ls (by omega) (by omega) (by rfl) (lv_sub hl [2, 3, 1, 0] rfl)
  intro k4
  induction k4 with
  | zero => intro k a ls h1 h2; exact absurd h2 (by omega)
  | succ k4 ih4 =>
    intro k a ls hle4 hlt4 inv4 hl
    refine lv_iload_n hx hb dX0_openMask_4 rfl (lv_at hl 3 rfl) ?_
    refine lv_iconst (v := 4) hx hb dX0_openMask_5 (by decide) ?_
    refine rd_icmp_ge_n (a := k) (b := 4) (tgt := 30) (by omega) (by omega) hx hb dX0_openMask_6 (by decide) (fun c_6 => ?_) (fun c_6 => ?_)
    · have c_6n := Nat.not_lt.mpr c_6
      refine lv_iload_n hx hb dX0_openMask_30 rfl (lv_at hl 2 rfl) ?_
      exact rd_iret hx hb hr hlocks dX0_openMask_31 (by rw [inv4, gF_end c_6])
    · have c_6n := Nat.not_le.mpr c_6
      refine lv_aload_n hx hb dX0_openMask_9 rfl (lv_at hl 0 rfl) ?_
      refine lv_iload_n hx hb dX0_openMask_10 rfl (lv_at hl 1 rfl) ?_
      refine lv_iload_n hx hb dX0_openMask_11 rfl (lv_at hl 3 rfl) ?_
      refine rd_callV (As := [.int (nI i), .int (nI k)]) (rest := []) ⟨hx, hb, hml, hown, hts⟩ (c_X0_isOpen l D hbd hi (nI k)) (cwV 2 hts gX0_openMask_X0_isOpen rfl rfl rfl (by decide +kernel) ⟨by decide, by decide⟩) hK hN hP hqb rfl rfl hl.1 rfl (Nat.le_of_ble_eq_true rfl) ⟨by decide, by decide⟩ dX0_openMask_12 ?_
      refine rd_ifeq_b (tgt := 24) hx hb dX0_openMask_15 (by decide) (fun c_15 => ?_) (fun c_15 => ?_)
      · refine lv_iinc (v := nI (k + 1)) (lv' := [(3, .int (nI (k + 1))), (0, .ref ob), (1, .int (nI i)), (2, .int a)]) hx hb dX0_openMask_24 hl (k := 3) rfl (nI_add k 1) (by decide) rfl (fun ls hl => ?_)
        refine lv_goto (tgt := 4) hx hb dX0_openMask_27 (by decide) ?_
        exact ih4 (k + 1) a ls (by omega) (by omega) (by rw [inv4, gF_step c_6]; simp [gMkF, gBit, bI, c_6n, c_15]) (lv_sub hl [1, 2, 3, 0] rfl)
      · refine lv_iload_n hx hb dX0_openMask_18 rfl (lv_at hl 2 rfl) ?_
        refine lv_iconst (v := 1) hx hb dX0_openMask_19 (by decide) ?_
        refine lv_iload_n hx hb dX0_openMask_20 rfl (lv_at hl 3 rfl) ?_
        refine lv_ishl hx hb dX0_openMask_21 ?_
        refine lv_ior hx hb dX0_openMask_22 ?_
        refine lv_istore_n (lv' := [(2, .int (a ||| (1 <<< (nI k &&& 31)))), (0, .ref ob), (1, .int (nI i)), (3, .int (nI k))]) hx hb dX0_openMask_23 rfl hl (by decide) rfl (fun ls hl => ?_)
        refine lv_iinc (v := nI (k + 1)) (lv' := [(3, .int (nI (k + 1))), (2, .int (a ||| (1 <<< (nI k &&& 31)))), (0, .ref ob), (1, .int (nI i))]) hx hb dX0_openMask_24 hl (k := 3) rfl (nI_add k 1) (by decide) rfl (fun ls hl => ?_)
        refine lv_goto (tgt := 4) hx hb dX0_openMask_27 (by decide) ?_
        exact ih4 (k + 1) (a ||| (1 <<< (nI k &&& 31))) ls (by omega) (by omega) (by rw [inv4, gF_step c_6]; simp [gMkF, gBit, bI, c_6n, c_15]) (lv_sub hl [2, 3, 1, 0] rfl)
set_option maxHeartbeats 4000000 in
set_option maxRecDepth 100000 in
theorem c_X0_sharedSquares (l : Launch) (D : va_G) {w : va_W} {tys : List (ClassId × FieldType)} {ob n : Nat} {P : Nat → Nat → Int32} (hbd : bd_in w tys ob n P) {i : Nat} (hi : i < n) (k : Int32) {j : Nat} (hj : j < n) (d : Int32) : rd_M l yX0_sharedSquares wsX0_sharedSquares ({ frames := 2, cells := 0, slots := 0, locals := 46 } : Room) D w tys [.ref ob, .int (nI i), .int k, .int (nI j), .int d] (gSh P i k j d) := by
  obtain ⟨qb, qc, t0, oc, cI, f, hqb, hqc, ht0, hn8, hf⟩ := id hbd
  refine rd_of (cc := cX0_sharedSquares) (maxL := 7) (ret := some .int) (by decide) rfl (Nat.le_of_ble_eq_true rfl) ?_
  intro p e s m below meth c hx hb hr hml hts hown hlocks hP hK hN ls hl
  have hown : s.vm.findClass RX0 = some m.cls := hown
  have hl : lv_has ls 7 [(0, .ref ob), (1, .int (nI i)), (2, .int k), (3, .int (nI j)), (4, .int d)] := hl
  have hw11 := hts (.fieldLink RX0 11 "CornerLabels$Board" "cells" "[I") (by decide +kernel)
  have hinX0 : ∀ w ∈ u_ws RX0 TX0 2, w ∈ wsX0_sharedSquares := by decide +kernel
  refine lv_aload_n hx hb dX0_sharedSquares_0 rfl (lv_at hl 0 rfl) ?_
  refine lv_iload_n hx hb dX0_sharedSquares_1 rfl (lv_at hl 1 rfl) ?_
  refine lv_iload_n hx hb dX0_sharedSquares_2 rfl (lv_at hl 2 rfl) ?_
  refine rd_callV (As := [.int (nI i), .int k]) (rest := []) ⟨hx, hb, hml, hown, hts⟩ (c_X0_left l D hbd hi k) (cwV 2 hts gX0_sharedSquares_X0_left rfl rfl rfl (by decide +kernel) ⟨by decide, by decide⟩) hK hN hP hqb rfl rfl hl.1 rfl (Nat.le_of_ble_eq_true rfl) ⟨by decide, by decide⟩ dX0_sharedSquares_3 ?_
  refine lv_aload_n hx hb dX0_sharedSquares_6 rfl (lv_at hl 0 rfl) ?_
  refine va_get (D := D) (ci := 0) (v := .ref oc) (C := RX0) (T := TX0) (N := 2) hx hb hts hinX0 hown hK hP qb hqb rfl 0 (by decide) hw11 (fun _ h9 => h9) rfl dX0_sharedSquares_7 ?_
  refine lv_bipush (v := 16) hx hb dX0_sharedSquares_10 (by decide) ?_
  refine lv_iload_n hx hb dX0_sharedSquares_12 rfl (lv_at hl 1 rfl) ?_
  refine lv_iadd hx hb dX0_sharedSquares_13 ?_
  refine lv_asi (y := nI (16 + i)) (nI_add 16 i) ?_
  refine rd_ald (q0 := qc) (t0 := t0) (j := 16 + i) (v := P i 2) hx hb hK hP hqc ht0 (rfl) (by omega) (by decide) (by rw [show 16 + i = 8 * 2 + i by omega]; exact hf i hi 2 (by decide)) dX0_sharedSquares_14 ?_
  refine lv_aload_n hx hb dX0_sharedSquares_15 rfl (lv_at hl 0 rfl) ?_
  refine lv_iload_n hx hb dX0_sharedSquares_16 rfl (lv_at hl 3 rfl) ?_
  refine lv_iload hx hb dX0_sharedSquares_17 (lv_at hl 4 rfl) ?_
  refine rd_callV (As := [.int (nI j), .int d]) (rest := [.int (P i 2), .int (gL P i k)]) ⟨hx, hb, hml, hown, hts⟩ (c_X0_left l D hbd hj d) (cwV 2 hts gX0_sharedSquares_X0_left rfl rfl rfl (by decide +kernel) ⟨by decide, by decide⟩) hK hN hP hqb rfl rfl hl.1 rfl (Nat.le_of_ble_eq_true rfl) ⟨by decide, by decide⟩ dX0_sharedSquares_19 ?_
  refine lv_aload_n hx hb dX0_sharedSquares_22 rfl (lv_at hl 0 rfl) ?_
  refine va_get (D := D) (ci := 0) (v := .ref oc) (C := RX0) (T := TX0) (N := 2) hx hb hts hinX0 hown hK hP qb hqb rfl 0 (by decide) hw11 (fun _ h9 => h9) rfl dX0_sharedSquares_23 ?_
  refine lv_bipush (v := 16) hx hb dX0_sharedSquares_26 (by decide) ?_
  refine lv_iload_n hx hb dX0_sharedSquares_28 rfl (lv_at hl 3 rfl) ?_
  refine lv_iadd hx hb dX0_sharedSquares_29 ?_
  refine lv_asi (y := nI (16 + j)) (nI_add 16 j) ?_
  refine rd_ald (q0 := qc) (t0 := t0) (j := 16 + j) (v := P j 2) hx hb hK hP hqc ht0 (rfl) (by omega) (by decide) (by rw [show 16 + j = 8 * 2 + j by omega]; exact hf j hj 2 (by decide)) dX0_sharedSquares_30 ?_
  refine rd_callS (As := [.int (gL P i k), .int (P i 2), .int (gL P j d), .int (P j 2)]) (rest := []) ⟨hx, hb, hml, hown, hts⟩ (c_X0_sharedLength l D (gL P i k) (P i 2) (gL P j d) (P j 2)) (va_cwS 4 hts gX0_sharedSquares_X0_sharedLength rfl rfl rfl (by decide +kernel) ⟨by decide, by decide⟩) hK hN hP rfl hl.1 rfl (Nat.le_of_ble_eq_true rfl) ⟨by decide, by decide⟩ dX0_sharedSquares_31 ?_
  refine lv_istore (lv' := [(5, .int (gLen (gL P i k) (P i 2) (gL P j d) (P j 2))), (0, .ref ob), (1, .int (nI i)), (2, .int k), (3, .int (nI j)), (4, .int d)]) hx hb dX0_sharedSquares_34 hl (by decide) rfl (fun ls hl => ?_)
  refine lv_aload_n hx hb dX0_sharedSquares_36 rfl (lv_at hl 1 rfl) ?_
  refine lv_iload_n hx hb dX0_sharedSquares_37 rfl (lv_at hl 2 rfl) ?_
  refine lv_iload_n hx hb dX0_sharedSquares_38 rfl (lv_at hl 3 rfl) ?_
  refine rd_callV (As := [.int (nI i), .int k]) (rest := []) ⟨hx, hb, hml, hown, hts⟩ (c_X0_top l D hbd hi k) (cwV 2 hts gX0_sharedSquares_X0_top rfl rfl rfl (by decide +kernel) ⟨by decide, by decide⟩) hK hN hP hqb rfl rfl hl.1 rfl (Nat.le_of_ble_eq_true rfl) ⟨by decide, by decide⟩ dX0_sharedSquares_39 ?_
  refine lv_aload_n hx hb dX0_sharedSquares_42 rfl (lv_at hl 1 rfl) ?_
  refine va_get (D := D) (ci := 0) (v := .ref oc) (C := RX0) (T := TX0) (N := 2) hx hb hts hinX0 hown hK hP qb hqb rfl 0 (by decide) hw11 (fun _ h9 => h9) rfl dX0_sharedSquares_43 ?_
  refine lv_bipush (v := 24) hx hb dX0_sharedSquares_46 (by decide) ?_
  refine lv_iload_n hx hb dX0_sharedSquares_48 rfl (lv_at hl 2 rfl) ?_
  refine lv_iadd hx hb dX0_sharedSquares_49 ?_
  refine lv_asi (y := nI (24 + i)) (nI_add 24 i) ?_
  refine rd_ald (q0 := qc) (t0 := t0) (j := 24 + i) (v := P i 3) hx hb hK hP hqc ht0 (rfl) (by omega) (by decide) (by rw [show 24 + i = 8 * 3 + i by omega]; exact hf i hi 3 (by decide)) dX0_sharedSquares_50 ?_
  refine lv_aload_n hx hb dX0_sharedSquares_51 rfl (lv_at hl 1 rfl) ?_
  refine lv_iload_n hx hb dX0_sharedSquares_52 rfl (lv_at hl 4 rfl) ?_
  refine lv_iload hx hb dX0_sharedSquares_53 (lv_at hl 5 rfl) ?_
  refine rd_callV (As := [.int (nI j), .int d]) (rest := [.int (P i 3), .int (gT P i k)]) ⟨hx, hb, hml, hown, hts⟩ (c_X0_top l D hbd hj d) (cwV 2 hts gX0_sharedSquares_X0_top rfl rfl rfl (by decide +kernel) ⟨by decide, by decide⟩) hK hN hP hqb rfl rfl hl.1 rfl (Nat.le_of_ble_eq_true rfl) ⟨by decide, by decide⟩ dX0_sharedSquares_55 ?_
  refine lv_aload_n hx hb dX0_sharedSquares_58 rfl (lv_at hl 1 rfl) ?_
  refine va_get (D := D) (ci := 0) (v := .ref oc) (C := RX0) (T := TX0) (N := 2) hx hb hts hinX0 hown hK hP qb hqb rfl 0 (by decide) hw11 (fun _ h9 => h9) rfl dX0_sharedSquares_59 ?_
  refine lv_bipush (v := 24) hx hb dX0_sharedSquares_62 (by decide) ?_
  refine lv_iload_n hx hb dX0_sharedSquares_64 rfl (lv_at hl 4 rfl) ?_
  refine lv_iadd hx hb dX0_sharedSquares_65 ?_
  refine lv_asi (y := nI (24 + j)) (nI_add 24 j) ?_
  refine rd_ald (q0 := qc) (t0 := t0) (j := 24 + j) (v := P j 3) hx hb hK hP hqc ht0 (rfl) (by omega) (by decide) (by rw [show 24 + j = 8 * 3 + j by omega]; exact hf j hj 3 (by decide)) dX0_sharedSquares_66 ?_
  refine rd_callS (As := [.int (gT P i k), .int (P i 3), .int (gT P j d), .int (P j 3)]) (rest := []) ⟨hx, hb, hml, hown, hts⟩ (c_X0_sharedLength l D (gT P i k) (P i 3) (gT P j d) (P j 3)) (va_cwS 4 hts gX0_sharedSquares_X0_sharedLength rfl rfl rfl (by decide +kernel) ⟨by decide, by decide⟩) hK hN hP rfl hl.1 rfl (Nat.le_of_ble_eq_true rfl) ⟨by decide, by decide⟩ dX0_sharedSquares_67 ?_
  refine lv_istore (lv' := [(6, .int (gLen (gT P i k) (P i 3) (gT P j d) (P j 3))), (5, .int (gLen (gL P i k) (P i 2) (gL P j d) (P j 2))), (0, .ref ob), (1, .int (nI i)), (2, .int k), (3, .int (nI j)), (4, .int d)]) hx hb dX0_sharedSquares_70 hl (by decide) rfl (fun ls hl => ?_)
  refine lv_iload hx hb dX0_sharedSquares_72 (lv_at hl 1 rfl) ?_
  refine lv_iload hx hb dX0_sharedSquares_74 (lv_at hl 0 rfl) ?_
  refine lv_imul hx hb dX0_sharedSquares_76 ?_
  exact rd_iret hx hb hr hlocks dX0_sharedSquares_77 (by rfl)
set_option maxHeartbeats 4000000 in
set_option maxRecDepth 100000 in
theorem c_X0_clashesWithStanding (l : Launch) (D : va_G) {w : va_W} {tys : List (ClassId × FieldType)} {ob n : Nat} {P : Nat → Nat → Int32} (hbd : bd_in w tys ob n P) {i : Nat} (hi : i < n) (k : Int32) : rd_M l yX0_clashesWithStanding wsX0_clashesWithStanding ({ frames := 3, cells := 0, slots := 0, locals := 72 } : Room) D w tys [.ref ob, .int (nI i), .int k] (bI (gCl n P i k)) := by
  obtain ⟨qb, qc, t0, oc, cI, f, hqb, hqc, ht0, hn8, hf⟩ := id hbd
  refine rd_of (cc := cX0_clashesWithStanding) (maxL := 4) (ret := some .boolean) (by decide) rfl (Nat.le_of_ble_eq_true rfl) ?_
  intro p e s m below meth c hx hb hr hml hts hown hlocks hP hK hN ls hl
  have hown : s.vm.findClass RX0 = some m.cls := hown
  have hl : lv_has ls 4 [(0, .ref ob), (1, .int (nI i)), (2, .int k)] := hl
  have hw15 := hts (.fieldLink RX0 15 "CornerLabels$Board" "points" "I") (by decide +kernel)
  have hinX0 : ∀ w ∈ u_ws RX0 TX0 2, w ∈ wsX0_clashesWithStanding := by decide +kernel
  have hw11 := hts (.fieldLink RX0 11 "CornerLabels$Board" "cells" "[I") (by decide +kernel)
  refine lv_iconst (v := 0) hx hb dX0_clashesWithStanding_0 (by decide) ?_
  refine lv_istore_n (lv' := [(3, .int 0), (0, .ref ob), (1, .int (nI i)), (2, .int k)]) hx hb dX0_clashesWithStanding_1 rfl hl (by decide) rfl (fun ls hl => ?_)
  suffices loop2 : ∀ (k2 j : Nat) (ls : Array Slot), j ≤ n → n + 1 ≤ j + k2 → (gCl n P i k = gE n (gClB P i k) j) → lv_has ls 4 [(0, .ref ob), (1, .int (nI i)), (2, .int k), (3, .int (nI j))] → rd_W p l e wsX0_clashesWithStanding ({ frames := 3, cells := 0, slots := 0, locals := 72 } : Room) s m [.ref ob, .int (nI i), .int k] below meth c (bI (gCl n P i k)) (F0 m 2 ls []) from
    loop2 (n + 1) 0 ls (by omega) (by omega) (by rfl) (lv_sub hl [1, 2, 3, 0] rfl)
  intro k2
  induction k2 with
  | zero => intro j ls h1 h2; exact absurd h2 (by omega)
  | succ k2 ih2 =>
    intro j ls hle2 hlt2 inv2 hl
    refine lv_iload_n hx hb dX0_clashesWithStanding_2 rfl (lv_at hl 3 rfl) ?_
    refine lv_aload_n hx hb dX0_clashesWithStanding_3 rfl (lv_at hl 0 rfl) ?_
    refine va_get (D := D) (ci := 0) (v := .int (nI n)) (C := RX0) (T := TX0) (N := 2) hx hb hts hinX0 hown hK hP qb hqb rfl 1 (by decide) hw15 (fun _ h9 => h9) rfl dX0_clashesWithStanding_4 ?_
    refine rd_icmp_ge_n (a := j) (b := n) (tgt := 50) (by omega) (by omega) hx hb dX0_clashesWithStanding_7 (by decide) (fun c_7 => ?_) (fun c_7 => ?_)
    · have c_7n := Nat.not_lt.mpr c_7
      refine lv_iconst (v := 0) hx hb dX0_clashesWithStanding_50 (by decide) ?_
      exact rd_zret hx hb hr hlocks dX0_clashesWithStanding_51 (by rw [inv2, gE_end c_7]; rfl)
    · have c_7n := Nat.not_le.mpr c_7
      refine lv_iload_n hx hb dX0_clashesWithStanding_10 rfl (lv_at hl 3 rfl) ?_
      refine lv_iload_n hx hb dX0_clashesWithStanding_11 rfl (lv_at hl 1 rfl) ?_
      refine rd_icmp_eq_n (a := j) (b := i) (tgt := 44) (by omega) (by omega) hx hb dX0_clashesWithStanding_12 (by decide) (fun c_12 => ?_) (fun c_12 => ?_)
      · refine lv_iinc (v := nI (j + 1)) (lv' := [(3, .int (nI (j + 1))), (0, .ref ob), (1, .int (nI i)), (2, .int k)]) hx hb dX0_clashesWithStanding_44 hl (k := 3) rfl (nI_add j 1) (by decide) rfl (fun ls hl => ?_)
        refine lv_goto (tgt := 2) hx hb dX0_clashesWithStanding_47 (by decide) ?_
        exact ih2 (j + 1) ls (by omega) (by omega) (by rw [inv2, gE_step c_7]; simp [gClB, bI, c_7n, c_12]) (lv_sub hl [1, 2, 3, 0] rfl)
      · refine lv_aload_n hx hb dX0_clashesWithStanding_15 rfl (lv_at hl 0 rfl) ?_
        refine lv_iload_n hx hb dX0_clashesWithStanding_16 rfl (lv_at hl 3 rfl) ?_
        refine rd_callV (As := [.int (nI j)]) (rest := []) ⟨hx, hb, hml, hown, hts⟩ (c_X0_stands l D hbd c_7) (cwV 1 hts gX0_clashesWithStanding_X0_stands rfl rfl rfl (by decide +kernel) ⟨by decide, by decide⟩) hK hN hP hqb rfl rfl hl.1 rfl (Nat.le_of_ble_eq_true rfl) ⟨by decide, by decide⟩ dX0_clashesWithStanding_17 ?_
        refine rd_ifeq_b (tgt := 44) hx hb dX0_clashesWithStanding_20 (by decide) (fun c_20 => ?_) (fun c_20 => ?_)
        · refine lv_iinc (v := nI (j + 1)) (lv' := [(3, .int (nI (j + 1))), (0, .ref ob), (1, .int (nI i)), (2, .int k)]) hx hb dX0_clashesWithStanding_44 hl (k := 3) rfl (nI_add j 1) (by decide) rfl (fun ls hl => ?_)
          refine lv_goto (tgt := 2) hx hb dX0_clashesWithStanding_47 (by decide) ?_
          exact ih2 (j + 1) ls (by omega) (by omega) (by rw [inv2, gE_step c_7]; simp [gClB, bI, c_7n, c_12, c_20]) (lv_sub hl [1, 2, 3, 0] rfl)
        · refine lv_aload_n hx hb dX0_clashesWithStanding_23 rfl (lv_at hl 0 rfl) ?_
          refine lv_iload_n hx hb dX0_clashesWithStanding_24 rfl (lv_at hl 1 rfl) ?_
          refine lv_iload_n hx hb dX0_clashesWithStanding_25 rfl (lv_at hl 2 rfl) ?_
          refine lv_iload_n hx hb dX0_clashesWithStanding_26 rfl (lv_at hl 3 rfl) ?_
          refine lv_aload_n hx hb dX0_clashesWithStanding_27 rfl (lv_at hl 0 rfl) ?_
          refine va_get (D := D) (ci := 0) (v := .ref oc) (C := RX0) (T := TX0) (N := 2) hx hb hts hinX0 hown hK hP qb hqb rfl 0 (by decide) hw11 (fun _ h9 => h9) rfl dX0_clashesWithStanding_28 ?_
          refine lv_bipush (v := 40) hx hb dX0_clashesWithStanding_31 (by decide) ?_
          refine lv_iload_n hx hb dX0_clashesWithStanding_33 rfl (lv_at hl 3 rfl) ?_
          refine lv_iadd hx hb dX0_clashesWithStanding_34 ?_
          refine lv_asi (y := nI (40 + j)) (nI_add 40 j) ?_
          refine rd_ald (q0 := qc) (t0 := t0) (j := 40 + j) (v := P j 5) hx hb hK hP hqc ht0 (rfl) (by omega) (by decide) (by rw [show 40 + j = 8 * 5 + j by omega]; exact hf j c_7 5 (by decide)) dX0_clashesWithStanding_35 ?_
          refine rd_callV (As := [.int (nI i), .int k, .int (nI j), .int (P j 5)]) (rest := []) ⟨hx, hb, hml, hown, hts⟩ (c_X0_sharedSquares l D hbd hi k c_7 (P j 5)) (cwV 4 hts gX0_clashesWithStanding_X0_sharedSquares rfl rfl rfl (by decide +kernel) ⟨by decide, by decide⟩) hK hN hP hqb rfl rfl hl.1 rfl (Nat.le_of_ble_eq_true rfl) ⟨by decide, by decide⟩ dX0_clashesWithStanding_36 ?_
          refine lv_if_le (tgt := 44) hx hb dX0_clashesWithStanding_39 (by decide) (fun c_39 => ?_) (fun c_39 => ?_)
          · have c_39n := Int32.not_lt.mpr c_39
            refine lv_iinc (v := nI (j + 1)) (lv' := [(3, .int (nI (j + 1))), (0, .ref ob), (1, .int (nI i)), (2, .int k)]) hx hb dX0_clashesWithStanding_44 hl (k := 3) rfl (nI_add j 1) (by decide) rfl (fun ls hl => ?_)
            refine lv_goto (tgt := 2) hx hb dX0_clashesWithStanding_47 (by decide) ?_
            exact ih2 (j + 1) ls (by omega) (by omega) (by rw [inv2, gE_step c_7]; simp [gClB, bI, c_7n, c_12, c_20, c_39, c_39n]) (lv_sub hl [1, 2, 3, 0] rfl)
          · have c_39n := Int32.not_le.mp c_39
            refine lv_iconst (v := 1) hx hb dX0_clashesWithStanding_42 (by decide) ?_
            exact rd_zret hx hb hr hlocks dX0_clashesWithStanding_43 (by rw [inv2, gE_step c_7]; simp [gClB, bI, c_7n, c_12, c_20, c_39, c_39n])
set_option maxHeartbeats 4000000 in
set_option maxRecDepth 100000 in
theorem c_X0_freeMask (l : Launch) (D : va_G) {w : va_W} {tys : List (ClassId × FieldType)} {ob n : Nat} {P : Nat → Nat → Int32} (hbd : bd_in w tys ob n P) {i : Nat} (hi : i < n) : rd_M l yX0_freeMask wsX0_freeMask ({ frames := 4, cells := 0, slots := 0, locals := 95 } : Room) D w tys [.ref ob, .int (nI i)] (gFr n P i) := by
  obtain ⟨qb, qc, t0, oc, cI, f, hqb, hqc, ht0, hn8, hf⟩ := id hbd
  refine rd_of (cc := cX0_freeMask) (maxL := 4) (ret := some .int) (by decide) rfl (Nat.le_of_ble_eq_true rfl) ?_
  intro p e s m below meth c hx hb hr hml hts hown hlocks hP hK hN ls hl
  have hown : s.vm.findClass RX0 = some m.cls := hown
  have hl : lv_has ls 4 [(0, .ref ob), (1, .int (nI i))] := hl
  refine lv_aload_n hx hb dX0_freeMask_0 rfl (lv_at hl 0 rfl) ?_
  refine lv_iload_n hx hb dX0_freeMask_1 rfl (lv_at hl 1 rfl) ?_
  refine rd_callV (As := [.int (nI i)]) (rest := []) ⟨hx, hb, hml, hown, hts⟩ (c_X0_openMask l D hbd hi) (cwV 1 hts gX0_freeMask_X0_openMask rfl rfl rfl (by decide +kernel) ⟨by decide, by decide⟩) hK hN hP hqb rfl rfl hl.1 rfl (Nat.le_of_ble_eq_true rfl) ⟨by decide, by decide⟩ dX0_freeMask_2 ?_
  refine lv_istore_n (lv' := [(2, .int (gMk n P i)), (0, .ref ob), (1, .int (nI i))]) hx hb dX0_freeMask_5 rfl hl (by decide) rfl (fun ls hl => ?_)
  refine lv_iconst (v := 0) hx hb dX0_freeMask_6 (by decide) ?_
  refine lv_istore_n (lv' := [(3, .int 0), (2, .int (gMk n P i)), (0, .ref ob), (1, .int (nI i))]) hx hb dX0_freeMask_7 rfl hl (by decide) rfl (fun ls hl => ?_)
  suffices loop8 : ∀ (k8 k : Nat) (a : Int32) (ls : Array Slot), k ≤ 4 → 4 + 1 ≤ k + k8 → (gFr n P i = gF 4 (gFrF n P i) k a) → lv_has ls 4 [(0, .ref ob), (1, .int (nI i)), (2, .int a), (3, .int (nI k))] → rd_W p l e wsX0_freeMask ({ frames := 4, cells := 0, slots := 0, locals := 95 } : Room) s m [.ref ob, .int (nI i)] below meth c (gFr n P i) (F0 m 8 ls []) from
    loop8 (4 + 1) 0 (gMk n P i) ls (by omega) (by omega) (by rfl) (lv_sub hl [2, 3, 1, 0] rfl)
  intro k8
  induction k8 with
  | zero => intro k a ls h1 h2; exact absurd h2 (by omega)
  | succ k8 ih8 =>
    intro k a ls hle8 hlt8 inv8 hl
    refine lv_iload_n hx hb dX0_freeMask_8 rfl (lv_at hl 3 rfl) ?_
    refine lv_iconst (v := 4) hx hb dX0_freeMask_9 (by decide) ?_
    refine rd_icmp_ge_n (a := k) (b := 4) (tgt := 44) (by omega) (by omega) hx hb dX0_freeMask_10 (by decide) (fun c_10 => ?_) (fun c_10 => ?_)
    · have c_10n := Nat.not_lt.mpr c_10
      refine lv_iload_n hx hb dX0_freeMask_44 rfl (lv_at hl 2 rfl) ?_
      exact rd_iret hx hb hr hlocks dX0_freeMask_45 (by rw [inv8, gF_end c_10])
    · have c_10n := Nat.not_le.mpr c_10
      refine lv_iload_n hx hb dX0_freeMask_13 rfl (lv_at hl 2 rfl) ?_
      refine lv_iload_n hx hb dX0_freeMask_14 rfl (lv_at hl 3 rfl) ?_
      refine rd_callSN (As := [.int a, .int (nI k)]) (rest := []) ⟨hx, hb, hml, hown, hts⟩ (c_X4_hasBit l D a (nI k)) ⟨va_cnB 2 hts gX0_freeMask_X4_hasBit_n68 rfl rfl rfl hN.1 (hts (.initialized RX4) (by decide +kernel)) (by decide +kernel) ⟨by decide, by decide⟩, hts (.static yX4_hasBit) (by decide +kernel), trivial⟩ hK hN hP rfl hl.1 rfl (Nat.le_of_ble_eq_true rfl) ⟨by decide, by decide⟩ dX0_freeMask_15 ?_
      refine rd_ifeq_b (tgt := 38) hx hb dX0_freeMask_18 (by decide) (fun c_18 => ?_) (fun c_18 => ?_)
      · refine lv_iinc (v := nI (k + 1)) (lv' := [(3, .int (nI (k + 1))), (0, .ref ob), (1, .int (nI i)), (2, .int a)]) hx hb dX0_freeMask_38 hl (k := 3) rfl (nI_add k 1) (by decide) rfl (fun ls hl => ?_)
        refine lv_goto (tgt := 8) hx hb dX0_freeMask_41 (by decide) ?_
        exact ih8 (k + 1) a ls (by omega) (by omega) (by rw [inv8, gF_step c_10]; simp [gFrF, gBit, bI, c_10n, c_18]) (lv_sub hl [1, 2, 3, 0] rfl)
      · refine lv_aload_n hx hb dX0_freeMask_21 rfl (lv_at hl 0 rfl) ?_
        refine lv_iload_n hx hb dX0_freeMask_22 rfl (lv_at hl 1 rfl) ?_
        refine lv_iload_n hx hb dX0_freeMask_23 rfl (lv_at hl 3 rfl) ?_
        refine rd_callV (As := [.int (nI i), .int (nI k)]) (rest := []) ⟨hx, hb, hml, hown, hts⟩ (c_X0_clashesWithStanding l D hbd hi (nI k)) (cwV 2 hts gX0_freeMask_X0_clashesWithStanding rfl rfl rfl (by decide +kernel) ⟨by decide, by decide⟩) hK hN hP hqb rfl rfl hl.1 rfl (Nat.le_of_ble_eq_true rfl) ⟨by decide, by decide⟩ dX0_freeMask_24 ?_
        refine rd_ifeq_b (tgt := 38) hx hb dX0_freeMask_27 (by decide) (fun c_27 => ?_) (fun c_27 => ?_)
        · refine lv_iinc (v := nI (k + 1)) (lv' := [(3, .int (nI (k + 1))), (0, .ref ob), (1, .int (nI i)), (2, .int a)]) hx hb dX0_freeMask_38 hl (k := 3) rfl (nI_add k 1) (by decide) rfl (fun ls hl => ?_)
          refine lv_goto (tgt := 8) hx hb dX0_freeMask_41 (by decide) ?_
          exact ih8 (k + 1) a ls (by omega) (by omega) (by rw [inv8, gF_step c_10]; simp [gFrF, gBit, bI, c_10n, c_18, c_27]) (lv_sub hl [1, 2, 3, 0] rfl)
        · refine lv_iload_n hx hb dX0_freeMask_30 rfl (lv_at hl 2 rfl) ?_
          refine lv_iconst (v := 1) hx hb dX0_freeMask_31 (by decide) ?_
          refine lv_iload_n hx hb dX0_freeMask_32 rfl (lv_at hl 3 rfl) ?_
          refine lv_ishl hx hb dX0_freeMask_33 ?_
          refine lv_iconst (v := (-1)) hx hb dX0_freeMask_34 (by decide) ?_
          refine lv_ixor hx hb dX0_freeMask_35 ?_
          refine lv_iand hx hb dX0_freeMask_36 ?_
          refine lv_istore_n (lv' := [(2, .int (a &&& ((1 <<< (nI k &&& 31)) ^^^ (-1)))), (0, .ref ob), (1, .int (nI i)), (3, .int (nI k))]) hx hb dX0_freeMask_37 rfl hl (by decide) rfl (fun ls hl => ?_)
          refine lv_iinc (v := nI (k + 1)) (lv' := [(3, .int (nI (k + 1))), (2, .int (a &&& ((1 <<< (nI k &&& 31)) ^^^ (-1)))), (0, .ref ob), (1, .int (nI i))]) hx hb dX0_freeMask_38 hl (k := 3) rfl (nI_add k 1) (by decide) rfl (fun ls hl => ?_)
          refine lv_goto (tgt := 8) hx hb dX0_freeMask_41 (by decide) ?_
          exact ih8 (k + 1) (a &&& ((1 <<< (nI k &&& 31)) ^^^ (-1))) ls (by omega) (by omega) (by rw [inv8, gF_step c_10]; simp [gFrF, gBit, bI, c_10n, c_18, c_27]) (lv_sub hl [2, 3, 1, 0] rfl)
set_option maxHeartbeats 4000000 in
set_option maxRecDepth 100000 in
theorem c_X0_isPointOnLeader (l : Launch) (D : va_G) {w : va_W} {tys : List (ClassId × FieldType)} {ob n : Nat} {P : Nat → Nat → Int32} (hbd : bd_in w tys ob n P) {i : Nat} (hi : i < n) {j : Nat} (hj : j < n) : rd_M l yX0_isPointOnLeader wsX0_isPointOnLeader ({ frames := 0, cells := 0, slots := 0, locals := 0 } : Room) D w tys [.ref ob, .int (nI i), .int (nI j)] (bI (gPL P i j)) := by
  obtain ⟨qb, qc, t0, oc, cI, f, hqb, hqc, ht0, hn8, hf⟩ := id hbd
  refine rd_of (cc := cX0_isPointOnLeader) (maxL := 3) (ret := some .boolean) (by decide) rfl (Nat.le_of_ble_eq_true rfl) ?_
  intro p e s m below meth c hx hb hr hml hts hown hlocks hP hK hN ls hl
  have hown : s.vm.findClass RX0 = some m.cls := hown
  have hl : lv_has ls 3 [(0, .ref ob), (1, .int (nI i)), (2, .int (nI j))] := hl
  have hw11 := hts (.fieldLink RX0 11 "CornerLabels$Board" "cells" "[I") (by decide +kernel)
  have hinX0 : ∀ w ∈ u_ws RX0 TX0 2, w ∈ wsX0_isPointOnLeader := by decide +kernel
  refine lv_aload_n hx hb dX0_isPointOnLeader_0 rfl (lv_at hl 0 rfl) ?_
  refine va_get (D := D) (ci := 0) (v := .ref oc) (C := RX0) (T := TX0) (N := 2) hx hb hts hinX0 hown hK hP qb hqb rfl 0 (by decide) hw11 (fun _ h9 => h9) rfl dX0_isPointOnLeader_1 ?_
  refine lv_bipush (v := 8) hx hb dX0_isPointOnLeader_4 (by decide) ?_
  refine lv_iload_n hx hb dX0_isPointOnLeader_6 rfl (lv_at hl 2 rfl) ?_
  refine lv_iadd hx hb dX0_isPointOnLeader_7 ?_
  refine lv_asi (y := nI (8 + j)) (nI_add 8 j) ?_
  refine rd_ald (q0 := qc) (t0 := t0) (j := 8 + j) (v := P j 1) hx hb hK hP hqc ht0 (rfl) (by omega) (by decide) (by rw [show 8 + j = 8 * 1 + j by omega]; exact hf j hj 1 (by decide)) dX0_isPointOnLeader_8 ?_
  refine lv_aload_n hx hb dX0_isPointOnLeader_9 rfl (lv_at hl 0 rfl) ?_
  refine va_get (D := D) (ci := 0) (v := .ref oc) (C := RX0) (T := TX0) (N := 2) hx hb hts hinX0 hown hK hP qb hqb rfl 0 (by decide) hw11 (fun _ h9 => h9) rfl dX0_isPointOnLeader_10 ?_
  refine lv_bipush (v := 8) hx hb dX0_isPointOnLeader_13 (by decide) ?_
  refine lv_iload_n hx hb dX0_isPointOnLeader_15 rfl (lv_at hl 1 rfl) ?_
  refine lv_iadd hx hb dX0_isPointOnLeader_16 ?_
  refine lv_asi (y := nI (8 + i)) (nI_add 8 i) ?_
  refine rd_ald (q0 := qc) (t0 := t0) (j := 8 + i) (v := P i 1) hx hb hK hP hqc ht0 (rfl) (by omega) (by decide) (by rw [show 8 + i = 8 * 1 + i by omega]; exact hf i hi 1 (by decide)) dX0_isPointOnLeader_17 ?_
  refine lv_icmp_ne (tgt := 44) hx hb dX0_isPointOnLeader_18 (by decide) (fun c_18 => ?_) (fun c_18 => ?_)
  · refine lv_iconst (v := 0) hx hb dX0_isPointOnLeader_44 (by decide) ?_
    exact rd_zret hx hb hr hlocks dX0_isPointOnLeader_45 (by simp [gPL, bI, c_18])
  · refine lv_aload_n hx hb dX0_isPointOnLeader_21 rfl (lv_at hl 0 rfl) ?_
    refine va_get (D := D) (ci := 0) (v := .ref oc) (C := RX0) (T := TX0) (N := 2) hx hb hts hinX0 hown hK hP qb hqb rfl 0 (by decide) hw11 (fun _ h9 => h9) rfl dX0_isPointOnLeader_22 ?_
    refine lv_iconst (v := 0) hx hb dX0_isPointOnLeader_25 (by decide) ?_
    refine lv_iload_n hx hb dX0_isPointOnLeader_26 rfl (lv_at hl 2 rfl) ?_
    refine lv_iadd hx hb dX0_isPointOnLeader_27 ?_
    refine lv_asi (y := nI (0 + j)) (nI_add 0 j) ?_
    refine rd_ald (q0 := qc) (t0 := t0) (j := 0 + j) (v := P j 0) hx hb hK hP hqc ht0 (rfl) (by omega) (by decide) (by rw [show 0 + j = 8 * 0 + j by omega]; exact hf j hj 0 (by decide)) dX0_isPointOnLeader_28 ?_
    refine lv_aload_n hx hb dX0_isPointOnLeader_29 rfl (lv_at hl 0 rfl) ?_
    refine va_get (D := D) (ci := 0) (v := .ref oc) (C := RX0) (T := TX0) (N := 2) hx hb hts hinX0 hown hK hP qb hqb rfl 0 (by decide) hw11 (fun _ h9 => h9) rfl dX0_isPointOnLeader_30 ?_
    refine lv_iconst (v := 0) hx hb dX0_isPointOnLeader_33 (by decide) ?_
    refine lv_iload_n hx hb dX0_isPointOnLeader_34 rfl (lv_at hl 1 rfl) ?_
    refine lv_iadd hx hb dX0_isPointOnLeader_35 ?_
    refine lv_asi (y := nI (0 + i)) (nI_add 0 i) ?_
    refine rd_ald (q0 := qc) (t0 := t0) (j := 0 + i) (v := P i 0) hx hb hK hP hqc ht0 (rfl) (by omega) (by decide) (by rw [show 0 + i = 8 * 0 + i by omega]; exact hf i hi 0 (by decide)) dX0_isPointOnLeader_36 ?_
    refine lv_icmp_le (tgt := 44) hx hb dX0_isPointOnLeader_37 (by decide) (fun c_37 => ?_) (fun c_37 => ?_)
    · have c_37n := Int32.not_lt.mpr c_37
      refine lv_iconst (v := 0) hx hb dX0_isPointOnLeader_44 (by decide) ?_
      exact rd_zret hx hb hr hlocks dX0_isPointOnLeader_45 (by simp [gPL, bI, c_18, c_37, c_37n])
    · have c_37n := Int32.not_le.mp c_37
      refine lv_iconst (v := 1) hx hb dX0_isPointOnLeader_40 (by decide) ?_
      refine lv_goto (tgt := 45) hx hb dX0_isPointOnLeader_41 (by decide) ?_
      exact rd_zret hx hb hr hlocks dX0_isPointOnLeader_45 (by simp [gPL, bI, c_18, c_37, c_37n])
set_option maxHeartbeats 4000000 in
set_option maxRecDepth 100000 in
theorem c_X0_isLabelOnLeader (l : Launch) (D : va_G) {w : va_W} {tys : List (ClassId × FieldType)} {ob n : Nat} {P : Nat → Nat → Int32} (hbd : bd_in w tys ob n P) {i : Nat} (hi : i < n) {j : Nat} (hj : j < n) : rd_M l yX0_isLabelOnLeader wsX0_isLabelOnLeader ({ frames := 1, cells := 0, slots := 0, locals := 23 } : Room) D w tys [.ref ob, .int (nI i), .int (nI j)] (bI (gLL P i j)) := by
  obtain ⟨qb, qc, t0, oc, cI, f, hqb, hqc, ht0, hn8, hf⟩ := id hbd
  refine rd_of (cc := cX0_isLabelOnLeader) (maxL := 7) (ret := some .boolean) (by decide) rfl (Nat.le_of_ble_eq_true rfl) ?_
  intro p e s m below meth c hx hb hr hml hts hown hlocks hP hK hN ls hl
  have hown : s.vm.findClass RX0 = some m.cls := hown
  have hl : lv_has ls 7 [(0, .ref ob), (1, .int (nI i)), (2, .int (nI j))] := hl
  have hw11 := hts (.fieldLink RX0 11 "CornerLabels$Board" "cells" "[I") (by decide +kernel)
  have hinX0 : ∀ w ∈ u_ws RX0 TX0 2, w ∈ wsX0_isLabelOnLeader := by decide +kernel
  refine lv_aload_n hx hb dX0_isLabelOnLeader_0 rfl (lv_at hl 0 rfl) ?_
  refine lv_iload_n hx hb dX0_isLabelOnLeader_1 rfl (lv_at hl 2 rfl) ?_
  refine rd_callV (As := [.int (nI j)]) (rest := []) ⟨hx, hb, hml, hown, hts⟩ (c_X0_stands l D hbd hj) (cwV 1 hts gX0_isLabelOnLeader_X0_stands rfl rfl rfl (by decide +kernel) ⟨by decide, by decide⟩) hK hN hP hqb rfl rfl hl.1 rfl (Nat.le_of_ble_eq_true rfl) ⟨by decide, by decide⟩ dX0_isLabelOnLeader_2 ?_
  refine rd_ifne_b (tgt := 10) hx hb dX0_isLabelOnLeader_5 (by decide) (fun c_5 => ?_) (fun c_5 => ?_)
  · refine lv_aload_n hx hb dX0_isLabelOnLeader_10 rfl (lv_at hl 0 rfl) ?_
    refine va_get (D := D) (ci := 0) (v := .ref oc) (C := RX0) (T := TX0) (N := 2) hx hb hts hinX0 hown hK hP qb hqb rfl 0 (by decide) hw11 (fun _ h9 => h9) rfl dX0_isLabelOnLeader_11 ?_
    refine lv_bipush (v := 40) hx hb dX0_isLabelOnLeader_14 (by decide) ?_
    refine lv_iload_n hx hb dX0_isLabelOnLeader_16 rfl (lv_at hl 2 rfl) ?_
    refine lv_iadd hx hb dX0_isLabelOnLeader_17 ?_
    refine lv_asi (y := nI (40 + j)) (nI_add 40 j) ?_
    refine rd_ald (q0 := qc) (t0 := t0) (j := 40 + j) (v := P j 5) hx hb hK hP hqc ht0 (rfl) (by omega) (by decide) (by rw [show 40 + j = 8 * 5 + j by omega]; exact hf j hj 5 (by decide)) dX0_isLabelOnLeader_18 ?_
    refine lv_istore_n (lv' := [(3, .int (P j 5)), (0, .ref ob), (1, .int (nI i)), (2, .int (nI j))]) hx hb dX0_isLabelOnLeader_19 rfl hl (by decide) rfl (fun ls hl => ?_)
    refine lv_aload_n hx hb dX0_isLabelOnLeader_20 rfl (lv_at hl 1 rfl) ?_
    refine lv_iload_n hx hb dX0_isLabelOnLeader_21 rfl (lv_at hl 3 rfl) ?_
    refine lv_iload_n hx hb dX0_isLabelOnLeader_22 rfl (lv_at hl 0 rfl) ?_
    refine rd_callV (As := [.int (nI j), .int (P j 5)]) (rest := []) ⟨hx, hb, hml, hown, hts⟩ (c_X0_left l D hbd hj (P j 5)) (cwV 2 hts gX0_isLabelOnLeader_X0_left rfl rfl rfl (by decide +kernel) ⟨by decide, by decide⟩) hK hN hP hqb rfl rfl hl.1 rfl (Nat.le_of_ble_eq_true rfl) ⟨by decide, by decide⟩ dX0_isLabelOnLeader_23 ?_
    refine lv_aload_n hx hb dX0_isLabelOnLeader_26 rfl (lv_at hl 1 rfl) ?_
    refine va_get (D := D) (ci := 0) (v := .ref oc) (C := RX0) (T := TX0) (N := 2) hx hb hts hinX0 hown hK hP qb hqb rfl 0 (by decide) hw11 (fun _ h9 => h9) rfl dX0_isLabelOnLeader_27 ?_
    refine lv_bipush (v := 16) hx hb dX0_isLabelOnLeader_30 (by decide) ?_
    refine lv_iload_n hx hb dX0_isLabelOnLeader_32 rfl (lv_at hl 3 rfl) ?_
    refine lv_iadd hx hb dX0_isLabelOnLeader_33 ?_
    refine lv_asi (y := nI (16 + j)) (nI_add 16 j) ?_
    refine rd_ald (q0 := qc) (t0 := t0) (j := 16 + j) (v := P j 2) hx hb hK hP hqc ht0 (rfl) (by omega) (by decide) (by rw [show 16 + j = 8 * 2 + j by omega]; exact hf j hj 2 (by decide)) dX0_isLabelOnLeader_34 ?_
    refine lv_iadd hx hb dX0_isLabelOnLeader_35 ?_
    refine lv_istore (lv' := [(4, .int ((gL P j (P j 5)) + (P j 2))), (3, .int (P j 5)), (0, .ref ob), (1, .int (nI i)), (2, .int (nI j))]) hx hb dX0_isLabelOnLeader_36 hl (by decide) rfl (fun ls hl => ?_)
    refine lv_aload_n hx hb dX0_isLabelOnLeader_38 rfl (lv_at hl 2 rfl) ?_
    refine lv_iload_n hx hb dX0_isLabelOnLeader_39 rfl (lv_at hl 4 rfl) ?_
    refine lv_iload_n hx hb dX0_isLabelOnLeader_40 rfl (lv_at hl 1 rfl) ?_
    refine rd_callV (As := [.int (nI j), .int (P j 5)]) (rest := []) ⟨hx, hb, hml, hown, hts⟩ (c_X0_top l D hbd hj (P j 5)) (cwV 2 hts gX0_isLabelOnLeader_X0_top rfl rfl rfl (by decide +kernel) ⟨by decide, by decide⟩) hK hN hP hqb rfl rfl hl.1 rfl (Nat.le_of_ble_eq_true rfl) ⟨by decide, by decide⟩ dX0_isLabelOnLeader_41 ?_
    refine lv_istore (lv' := [(5, .int (gT P j (P j 5))), (4, .int ((gL P j (P j 5)) + (P j 2))), (3, .int (P j 5)), (0, .ref ob), (1, .int (nI i)), (2, .int (nI j))]) hx hb dX0_isLabelOnLeader_44 hl (by decide) rfl (fun ls hl => ?_)
    refine lv_aload_n hx hb dX0_isLabelOnLeader_46 rfl (lv_at hl 3 rfl) ?_
    refine va_get (D := D) (ci := 0) (v := .ref oc) (C := RX0) (T := TX0) (N := 2) hx hb hts hinX0 hown hK hP qb hqb rfl 0 (by decide) hw11 (fun _ h9 => h9) rfl dX0_isLabelOnLeader_47 ?_
    refine lv_bipush (v := 8) hx hb dX0_isLabelOnLeader_50 (by decide) ?_
    refine lv_iload_n hx hb dX0_isLabelOnLeader_52 rfl (lv_at hl 4 rfl) ?_
    refine lv_iadd hx hb dX0_isLabelOnLeader_53 ?_
    refine lv_asi (y := nI (8 + i)) (nI_add 8 i) ?_
    refine rd_ald (q0 := qc) (t0 := t0) (j := 8 + i) (v := P i 1) hx hb hK hP hqc ht0 (rfl) (by omega) (by decide) (by rw [show 8 + i = 8 * 1 + i by omega]; exact hf i hi 1 (by decide)) dX0_isLabelOnLeader_54 ?_
    refine lv_istore (lv' := [(6, .int (P i 1)), (5, .int (gT P j (P j 5))), (4, .int ((gL P j (P j 5)) + (P j 2))), (3, .int (P j 5)), (0, .ref ob), (1, .int (nI i)), (2, .int (nI j))]) hx hb dX0_isLabelOnLeader_55 hl (by decide) rfl (fun ls hl => ?_)
    refine lv_iload hx hb dX0_isLabelOnLeader_57 (lv_at hl 2 rfl) ?_
    refine lv_aload_n hx hb dX0_isLabelOnLeader_59 rfl (lv_at hl 4 rfl) ?_
    refine va_get (D := D) (ci := 0) (v := .ref oc) (C := RX0) (T := TX0) (N := 2) hx hb hts hinX0 hown hK hP qb hqb rfl 0 (by decide) hw11 (fun _ h9 => h9) rfl dX0_isLabelOnLeader_60 ?_
    refine lv_iconst (v := 0) hx hb dX0_isLabelOnLeader_63 (by decide) ?_
    refine lv_iload_n hx hb dX0_isLabelOnLeader_64 rfl (lv_at hl 5 rfl) ?_
    refine lv_iadd hx hb dX0_isLabelOnLeader_65 ?_
    refine lv_asi (y := nI (0 + i)) (nI_add 0 i) ?_
    refine rd_ald (q0 := qc) (t0 := t0) (j := 0 + i) (v := P i 0) hx hb hK hP hqc ht0 (rfl) (by omega) (by decide) (by rw [show 0 + i = 8 * 0 + i by omega]; exact hf i hi 0 (by decide)) dX0_isLabelOnLeader_66 ?_
    refine lv_iconst (v := 1) hx hb dX0_isLabelOnLeader_67 (by decide) ?_
    refine lv_iadd hx hb dX0_isLabelOnLeader_68 ?_
    refine lv_icmp_le (tgt := 100) hx hb dX0_isLabelOnLeader_69 (by decide) (fun c_69 => ?_) (fun c_69 => ?_)
    · have c_69n := Int32.not_lt.mpr c_69
      refine lv_iconst (v := 0) hx hb dX0_isLabelOnLeader_100 (by decide) ?_
      exact rd_zret hx hb hr hlocks dX0_isLabelOnLeader_101 (by simp [gLL, bI, c_5, c_69, c_69n])
    · have c_69n := Int32.not_le.mp c_69
      refine lv_iload hx hb dX0_isLabelOnLeader_72 (lv_at hl 0 rfl) ?_
      refine lv_iload hx hb dX0_isLabelOnLeader_74 (lv_at hl 1 rfl) ?_
      refine lv_icmp_lt (tgt := 100) hx hb dX0_isLabelOnLeader_76 (by decide) (fun c_76 => ?_) (fun c_76 => ?_)
      · have c_76n := Int32.not_le.mpr c_76
        refine lv_iconst (v := 0) hx hb dX0_isLabelOnLeader_100 (by decide) ?_
        exact rd_zret hx hb hr hlocks dX0_isLabelOnLeader_101 (by simp [gLL, bI, c_5, c_69, c_69n, c_76, c_76n])
      · have c_76n := Int32.not_lt.mp c_76
        refine lv_iload hx hb dX0_isLabelOnLeader_79 (lv_at hl 0 rfl) ?_
        refine lv_iload hx hb dX0_isLabelOnLeader_81 (lv_at hl 1 rfl) ?_
        refine lv_aload_n hx hb dX0_isLabelOnLeader_83 rfl (lv_at hl 4 rfl) ?_
        refine va_get (D := D) (ci := 0) (v := .ref oc) (C := RX0) (T := TX0) (N := 2) hx hb hts hinX0 hown hK hP qb hqb rfl 0 (by decide) hw11 (fun _ h9 => h9) rfl dX0_isLabelOnLeader_84 ?_
        refine lv_bipush (v := 24) hx hb dX0_isLabelOnLeader_87 (by decide) ?_
        refine lv_iload_n hx hb dX0_isLabelOnLeader_89 rfl (lv_at hl 6 rfl) ?_
        refine lv_iadd hx hb dX0_isLabelOnLeader_90 ?_
        refine lv_asi (y := nI (24 + j)) (nI_add 24 j) ?_
        refine rd_ald (q0 := qc) (t0 := t0) (j := 24 + j) (v := P j 3) hx hb hK hP hqc ht0 (rfl) (by omega) (by decide) (by rw [show 24 + j = 8 * 3 + j by omega]; exact hf j hj 3 (by decide)) dX0_isLabelOnLeader_91 ?_
        refine lv_iadd hx hb dX0_isLabelOnLeader_92 ?_
        refine lv_icmp_ge (tgt := 100) hx hb dX0_isLabelOnLeader_93 (by decide) (fun c_93 => ?_) (fun c_93 => ?_)
        · have c_93n := Int32.not_lt.mpr c_93
          refine lv_iconst (v := 0) hx hb dX0_isLabelOnLeader_100 (by decide) ?_
          exact rd_zret hx hb hr hlocks dX0_isLabelOnLeader_101 (by simp [gLL, bI, c_5, c_69, c_69n, c_76, c_76n, c_93, c_93n])
        · have c_93n := Int32.not_le.mp c_93
          refine lv_iconst (v := 1) hx hb dX0_isLabelOnLeader_96 (by decide) ?_
          refine lv_goto (tgt := 101) hx hb dX0_isLabelOnLeader_97 (by decide) ?_
          exact rd_zret hx hb hr hlocks dX0_isLabelOnLeader_101 (by simp [gLL, bI, c_5, c_69, c_69n, c_76, c_76n, c_93, c_93n])
  · refine lv_iconst (v := 0) hx hb dX0_isLabelOnLeader_8 (by decide) ?_
    exact rd_zret hx hb hr hlocks dX0_isLabelOnLeader_9 (by simp [gLL, bI, c_5])
set_option maxHeartbeats 4000000 in
set_option maxRecDepth 100000 in
theorem c_X0_leaderCrossings (l : Launch) (D : va_G) {w : va_W} {tys : List (ClassId × FieldType)} {ob n : Nat} {P : Nat → Nat → Int32} (hbd : bd_in w tys ob n P) {i : Nat} (hi : i < n) : rd_M l yX0_leaderCrossings wsX0_leaderCrossings ({ frames := 2, cells := 0, slots := 0, locals := 49 } : Room) D w tys [.ref ob, .int (nI i)] (gCr n P i) := by
  obtain ⟨qb, qc, t0, oc, cI, f, hqb, hqc, ht0, hn8, hf⟩ := id hbd
  refine rd_of (cc := cX0_leaderCrossings) (maxL := 4) (ret := some .int) (by decide) rfl (Nat.le_of_ble_eq_true rfl) ?_
  intro p e s m below meth c hx hb hr hml hts hown hlocks hP hK hN ls hl
  have hown : s.vm.findClass RX0 = some m.cls := hown
  have hl : lv_has ls 4 [(0, .ref ob), (1, .int (nI i))] := hl
  have hw15 := hts (.fieldLink RX0 15 "CornerLabels$Board" "points" "I") (by decide +kernel)
  have hinX0 : ∀ w ∈ u_ws RX0 TX0 2, w ∈ wsX0_leaderCrossings := by decide +kernel
  refine lv_iconst (v := 0) hx hb dX0_leaderCrossings_0 (by decide) ?_
  refine lv_istore_n (lv' := [(2, .int 0), (0, .ref ob), (1, .int (nI i))]) hx hb dX0_leaderCrossings_1 rfl hl (by decide) rfl (fun ls hl => ?_)
  refine lv_iconst (v := 0) hx hb dX0_leaderCrossings_2 (by decide) ?_
  refine lv_istore_n (lv' := [(3, .int 0), (2, .int 0), (0, .ref ob), (1, .int (nI i))]) hx hb dX0_leaderCrossings_3 rfl hl (by decide) rfl (fun ls hl => ?_)
  suffices loop4 : ∀ (k4 j : Nat) (a : Int32) (ls : Array Slot), j ≤ n → n + 1 ≤ j + k4 → (gCr n P i = gF n (gCrF P i) j a) → lv_has ls 4 [(0, .ref ob), (1, .int (nI i)), (2, .int a), (3, .int (nI j))] → rd_W p l e wsX0_leaderCrossings ({ frames := 2, cells := 0, slots := 0, locals := 49 } : Room) s m [.ref ob, .int (nI i)] below meth c (gCr n P i) (F0 m 4 ls []) from
    loop4 (n + 1) 0 0 ls (by omega) (by omega) (by rfl) (lv_sub hl [2, 3, 1, 0] rfl)
  intro k4
  induction k4 with
  | zero => intro j a ls h1 h2; exact absurd h2 (by omega)
  | succ k4 ih4 =>
    intro j a ls hle4 hlt4 inv4 hl
    refine lv_iload_n hx hb dX0_leaderCrossings_4 rfl (lv_at hl 3 rfl) ?_
    refine lv_aload_n hx hb dX0_leaderCrossings_5 rfl (lv_at hl 0 rfl) ?_
    refine va_get (D := D) (ci := 0) (v := .int (nI n)) (C := RX0) (T := TX0) (N := 2) hx hb hts hinX0 hown hK hP qb hqb rfl 1 (by decide) hw15 (fun _ h9 => h9) rfl dX0_leaderCrossings_6 ?_
    refine rd_icmp_ge_n (a := j) (b := n) (tgt := 42) (by omega) (by omega) hx hb dX0_leaderCrossings_9 (by decide) (fun c_9 => ?_) (fun c_9 => ?_)
    · have c_9n := Nat.not_lt.mpr c_9
      refine lv_iload_n hx hb dX0_leaderCrossings_42 rfl (lv_at hl 2 rfl) ?_
      exact rd_iret hx hb hr hlocks dX0_leaderCrossings_43 (by rw [inv4, gF_end c_9])
    · have c_9n := Nat.not_le.mpr c_9
      refine lv_aload_n hx hb dX0_leaderCrossings_12 rfl (lv_at hl 0 rfl) ?_
      refine lv_iload_n hx hb dX0_leaderCrossings_13 rfl (lv_at hl 1 rfl) ?_
      refine lv_iload_n hx hb dX0_leaderCrossings_14 rfl (lv_at hl 3 rfl) ?_
      refine rd_callV (As := [.int (nI i), .int (nI j)]) (rest := []) ⟨hx, hb, hml, hown, hts⟩ (c_X0_isPointOnLeader l D hbd hi c_9) (cwV 2 hts gX0_leaderCrossings_X0_isPointOnLeader rfl rfl rfl (by decide +kernel) ⟨by decide, by decide⟩) hK hN hP hqb rfl rfl hl.1 rfl (Nat.le_of_ble_eq_true rfl) ⟨by decide, by decide⟩ dX0_leaderCrossings_15 ?_
      refine rd_ifeq_b (tgt := 24) hx hb dX0_leaderCrossings_18 (by decide) (fun c_18 => ?_) (fun c_18 => ?_)
      · refine lv_aload_n hx hb dX0_leaderCrossings_24 rfl (lv_at hl 0 rfl) ?_
        refine lv_iload_n hx hb dX0_leaderCrossings_25 rfl (lv_at hl 1 rfl) ?_
        refine lv_iload_n hx hb dX0_leaderCrossings_26 rfl (lv_at hl 3 rfl) ?_
        refine rd_callV (As := [.int (nI i), .int (nI j)]) (rest := []) ⟨hx, hb, hml, hown, hts⟩ (c_X0_isLabelOnLeader l D hbd hi c_9) (cwV 2 hts gX0_leaderCrossings_X0_isLabelOnLeader rfl rfl rfl (by decide +kernel) ⟨by decide, by decide⟩) hK hN hP hqb rfl rfl hl.1 rfl (Nat.le_of_ble_eq_true rfl) ⟨by decide, by decide⟩ dX0_leaderCrossings_27 ?_
        refine rd_ifeq_b (tgt := 36) hx hb dX0_leaderCrossings_30 (by decide) (fun c_30 => ?_) (fun c_30 => ?_)
        · refine lv_iinc (v := nI (j + 1)) (lv' := [(3, .int (nI (j + 1))), (0, .ref ob), (1, .int (nI i)), (2, .int a)]) hx hb dX0_leaderCrossings_36 hl (k := 3) rfl (nI_add j 1) (by decide) rfl (fun ls hl => ?_)
          refine lv_goto (tgt := 4) hx hb dX0_leaderCrossings_39 (by decide) ?_
          exact ih4 (j + 1) a ls (by omega) (by omega) (by rw [inv4, gF_step c_9]; simp [gCrF, bI, c_9n, c_18, c_30]) (lv_sub hl [1, 2, 3, 0] rfl)
        · refine lv_iinc (v := a + 1) (lv' := [(2, .int (a + 1)), (0, .ref ob), (1, .int (nI i)), (3, .int (nI j))]) hx hb dX0_leaderCrossings_33 hl (k := 2) rfl (rfl) (by decide) rfl (fun ls hl => ?_)
          refine lv_iinc (v := nI (j + 1)) (lv' := [(3, .int (nI (j + 1))), (2, .int (a + 1)), (0, .ref ob), (1, .int (nI i))]) hx hb dX0_leaderCrossings_36 hl (k := 3) rfl (nI_add j 1) (by decide) rfl (fun ls hl => ?_)
          refine lv_goto (tgt := 4) hx hb dX0_leaderCrossings_39 (by decide) ?_
          exact ih4 (j + 1) (a + 1) ls (by omega) (by omega) (by rw [inv4, gF_step c_9]; simp [gCrF, bI, c_9n, c_18, c_30]) (lv_sub hl [2, 3, 1, 0] rfl)
      · refine lv_iinc (v := a + 1) (lv' := [(2, .int (a + 1)), (0, .ref ob), (1, .int (nI i)), (3, .int (nI j))]) hx hb dX0_leaderCrossings_21 hl (k := 2) rfl (rfl) (by decide) rfl (fun ls hl => ?_)
        refine lv_aload_n hx hb dX0_leaderCrossings_24 rfl (lv_at hl 1 rfl) ?_
        refine lv_iload_n hx hb dX0_leaderCrossings_25 rfl (lv_at hl 2 rfl) ?_
        refine lv_iload_n hx hb dX0_leaderCrossings_26 rfl (lv_at hl 3 rfl) ?_
        refine rd_callV (As := [.int (nI i), .int (nI j)]) (rest := []) ⟨hx, hb, hml, hown, hts⟩ (c_X0_isLabelOnLeader l D hbd hi c_9) (cwV 2 hts gX0_leaderCrossings_X0_isLabelOnLeader rfl rfl rfl (by decide +kernel) ⟨by decide, by decide⟩) hK hN hP hqb rfl rfl hl.1 rfl (Nat.le_of_ble_eq_true rfl) ⟨by decide, by decide⟩ dX0_leaderCrossings_27 ?_
        refine rd_ifeq_b (tgt := 36) hx hb dX0_leaderCrossings_30 (by decide) (fun c_30 => ?_) (fun c_30 => ?_)
        · refine lv_iinc (v := nI (j + 1)) (lv' := [(3, .int (nI (j + 1))), (2, .int (a + 1)), (0, .ref ob), (1, .int (nI i))]) hx hb dX0_leaderCrossings_36 hl (k := 3) rfl (nI_add j 1) (by decide) rfl (fun ls hl => ?_)
          refine lv_goto (tgt := 4) hx hb dX0_leaderCrossings_39 (by decide) ?_
          exact ih4 (j + 1) (a + 1) ls (by omega) (by omega) (by rw [inv4, gF_step c_9]; simp [gCrF, bI, c_9n, c_18, c_30]) (lv_sub hl [2, 3, 1, 0] rfl)
        · refine lv_iinc (v := a + 1 + 1) (lv' := [(2, .int (a + 1 + 1)), (0, .ref ob), (1, .int (nI i)), (3, .int (nI j))]) hx hb dX0_leaderCrossings_33 hl (k := 0) rfl (rfl) (by decide) rfl (fun ls hl => ?_)
          refine lv_iinc (v := nI (j + 1)) (lv' := [(3, .int (nI (j + 1))), (2, .int (a + 1 + 1)), (0, .ref ob), (1, .int (nI i))]) hx hb dX0_leaderCrossings_36 hl (k := 3) rfl (nI_add j 1) (by decide) rfl (fun ls hl => ?_)
          refine lv_goto (tgt := 4) hx hb dX0_leaderCrossings_39 (by decide) ?_
          exact ih4 (j + 1) (a + 1 + 1) ls (by omega) (by omega) (by rw [inv4, gF_step c_9]; simp [gCrF, bI, c_9n, c_18, c_30]) (lv_sub hl [2, 3, 1, 0] rfl)
set_option maxHeartbeats 4000000 in
set_option maxRecDepth 100000 in
theorem c_X0_standingLabels (l : Launch) (D : va_G) {w : va_W} {tys : List (ClassId × FieldType)} {ob n : Nat} {P : Nat → Nat → Int32} (hbd : bd_in w tys ob n P) : rd_M l yX0_standingLabels wsX0_standingLabels ({ frames := 1, cells := 0, slots := 0, locals := 21 } : Room) D w tys [.ref ob] (gN n P) := by
  obtain ⟨qb, qc, t0, oc, cI, f, hqb, hqc, ht0, hn8, hf⟩ := id hbd
  refine rd_of (cc := cX0_standingLabels) (maxL := 3) (ret := some .int) (by decide) rfl (Nat.le_of_ble_eq_true rfl) ?_
  intro p e s m below meth c hx hb hr hml hts hown hlocks hP hK hN ls hl
  have hown : s.vm.findClass RX0 = some m.cls := hown
  have hl : lv_has ls 3 [(0, .ref ob)] := hl
  have hw15 := hts (.fieldLink RX0 15 "CornerLabels$Board" "points" "I") (by decide +kernel)
  have hinX0 : ∀ w ∈ u_ws RX0 TX0 2, w ∈ wsX0_standingLabels := by decide +kernel
  refine lv_iconst (v := 0) hx hb dX0_standingLabels_0 (by decide) ?_
  refine lv_istore_n (lv' := [(1, .int 0), (0, .ref ob)]) hx hb dX0_standingLabels_1 rfl hl (by decide) rfl (fun ls hl => ?_)
  refine lv_iconst (v := 0) hx hb dX0_standingLabels_2 (by decide) ?_
  refine lv_istore_n (lv' := [(2, .int 0), (1, .int 0), (0, .ref ob)]) hx hb dX0_standingLabels_3 rfl hl (by decide) rfl (fun ls hl => ?_)
  suffices loop4 : ∀ (k4 i : Nat) (a : Int32) (ls : Array Slot), i ≤ n → n + 1 ≤ i + k4 → (gN n P = gF n (gNF P) i a) → lv_has ls 3 [(0, .ref ob), (1, .int a), (2, .int (nI i))] → rd_W p l e wsX0_standingLabels ({ frames := 1, cells := 0, slots := 0, locals := 21 } : Room) s m [.ref ob] below meth c (gN n P) (F0 m 4 ls []) from
    loop4 (n + 1) 0 0 ls (by omega) (by omega) (by rfl) (lv_sub hl [2, 1, 0] rfl)
  intro k4
  induction k4 with
  | zero => intro i a ls h1 h2; exact absurd h2 (by omega)
  | succ k4 ih4 =>
    intro i a ls hle4 hlt4 inv4 hl
    refine lv_iload_n hx hb dX0_standingLabels_4 rfl (lv_at hl 2 rfl) ?_
    refine lv_aload_n hx hb dX0_standingLabels_5 rfl (lv_at hl 0 rfl) ?_
    refine va_get (D := D) (ci := 0) (v := .int (nI n)) (C := RX0) (T := TX0) (N := 2) hx hb hts hinX0 hown hK hP qb hqb rfl 1 (by decide) hw15 (fun _ h9 => h9) rfl dX0_standingLabels_6 ?_
    refine rd_icmp_ge_n (a := i) (b := n) (tgt := 29) (by omega) (by omega) hx hb dX0_standingLabels_9 (by decide) (fun c_9 => ?_) (fun c_9 => ?_)
    · have c_9n := Nat.not_lt.mpr c_9
      refine lv_iload_n hx hb dX0_standingLabels_29 rfl (lv_at hl 1 rfl) ?_
      exact rd_iret hx hb hr hlocks dX0_standingLabels_30 (by rw [inv4, gF_end c_9])
    · have c_9n := Nat.not_le.mpr c_9
      refine lv_aload_n hx hb dX0_standingLabels_12 rfl (lv_at hl 0 rfl) ?_
      refine lv_iload_n hx hb dX0_standingLabels_13 rfl (lv_at hl 2 rfl) ?_
      refine rd_callV (As := [.int (nI i)]) (rest := []) ⟨hx, hb, hml, hown, hts⟩ (c_X0_stands l D hbd c_9) (cwV 1 hts gX0_standingLabels_X0_stands rfl rfl rfl (by decide +kernel) ⟨by decide, by decide⟩) hK hN hP hqb rfl rfl hl.1 rfl (Nat.le_of_ble_eq_true rfl) ⟨by decide, by decide⟩ dX0_standingLabels_14 ?_
      refine rd_ifeq_b (tgt := 23) hx hb dX0_standingLabels_17 (by decide) (fun c_17 => ?_) (fun c_17 => ?_)
      · refine lv_iinc (v := nI (i + 1)) (lv' := [(2, .int (nI (i + 1))), (0, .ref ob), (1, .int a)]) hx hb dX0_standingLabels_23 hl (k := 2) rfl (nI_add i 1) (by decide) rfl (fun ls hl => ?_)
        refine lv_goto (tgt := 4) hx hb dX0_standingLabels_26 (by decide) ?_
        exact ih4 (i + 1) a ls (by omega) (by omega) (by rw [inv4, gF_step c_9]; simp [gNF, bI, c_9n, c_17]) (lv_sub hl [1, 2, 0] rfl)
      · refine lv_iinc (v := a + 1) (lv' := [(1, .int (a + 1)), (0, .ref ob), (2, .int (nI i))]) hx hb dX0_standingLabels_20 hl (k := 1) rfl (rfl) (by decide) rfl (fun ls hl => ?_)
        refine lv_iinc (v := nI (i + 1)) (lv' := [(2, .int (nI (i + 1))), (1, .int (a + 1)), (0, .ref ob)]) hx hb dX0_standingLabels_23 hl (k := 2) rfl (nI_add i 1) (by decide) rfl (fun ls hl => ?_)
        refine lv_goto (tgt := 4) hx hb dX0_standingLabels_26 (by decide) ?_
        exact ih4 (i + 1) (a + 1) ls (by omega) (by omega) (by rw [inv4, gF_step c_9]; simp [gNF, bI, c_9n, c_17]) (lv_sub hl [2, 1, 0] rfl)
set_option maxHeartbeats 4000000 in
set_option maxRecDepth 100000 in
theorem c_X0_standingWeight (l : Launch) (D : va_G) {w : va_W} {tys : List (ClassId × FieldType)} {ob n : Nat} {P : Nat → Nat → Int32} (hbd : bd_in w tys ob n P) : rd_M l yX0_standingWeight wsX0_standingWeight ({ frames := 1, cells := 0, slots := 0, locals := 21 } : Room) D w tys [.ref ob] (gSW n P) := by
  obtain ⟨qb, qc, t0, oc, cI, f, hqb, hqc, ht0, hn8, hf⟩ := id hbd
  refine rd_of (cc := cX0_standingWeight) (maxL := 3) (ret := some .int) (by decide) rfl (Nat.le_of_ble_eq_true rfl) ?_
  intro p e s m below meth c hx hb hr hml hts hown hlocks hP hK hN ls hl
  have hown : s.vm.findClass RX0 = some m.cls := hown
  have hl : lv_has ls 3 [(0, .ref ob)] := hl
  have hw15 := hts (.fieldLink RX0 15 "CornerLabels$Board" "points" "I") (by decide +kernel)
  have hinX0 : ∀ w ∈ u_ws RX0 TX0 2, w ∈ wsX0_standingWeight := by decide +kernel
  have hw11 := hts (.fieldLink RX0 11 "CornerLabels$Board" "cells" "[I") (by decide +kernel)
  refine lv_iconst (v := 0) hx hb dX0_standingWeight_0 (by decide) ?_
  refine lv_istore_n (lv' := [(1, .int 0), (0, .ref ob)]) hx hb dX0_standingWeight_1 rfl hl (by decide) rfl (fun ls hl => ?_)
  refine lv_iconst (v := 0) hx hb dX0_standingWeight_2 (by decide) ?_
  refine lv_istore_n (lv' := [(2, .int 0), (1, .int 0), (0, .ref ob)]) hx hb dX0_standingWeight_3 rfl hl (by decide) rfl (fun ls hl => ?_)
  suffices loop4 : ∀ (k4 i : Nat) (a : Int32) (ls : Array Slot), i ≤ n → n + 1 ≤ i + k4 → (gSW n P = gF n (gSWF P) i a) → lv_has ls 3 [(0, .ref ob), (1, .int a), (2, .int (nI i))] → rd_W p l e wsX0_standingWeight ({ frames := 1, cells := 0, slots := 0, locals := 21 } : Room) s m [.ref ob] below meth c (gSW n P) (F0 m 4 ls []) from
    loop4 (n + 1) 0 0 ls (by omega) (by omega) (by rfl) (lv_sub hl [2, 1, 0] rfl)
  intro k4
  induction k4 with
  | zero => intro i a ls h1 h2; exact absurd h2 (by omega)
  | succ k4 ih4 =>
    intro i a ls hle4 hlt4 inv4 hl
    refine lv_iload_n hx hb dX0_standingWeight_4 rfl (lv_at hl 2 rfl) ?_
    refine lv_aload_n hx hb dX0_standingWeight_5 rfl (lv_at hl 0 rfl) ?_
    refine va_get (D := D) (ci := 0) (v := .int (nI n)) (C := RX0) (T := TX0) (N := 2) hx hb hts hinX0 hown hK hP qb hqb rfl 1 (by decide) hw15 (fun _ h9 => h9) rfl dX0_standingWeight_6 ?_
    refine rd_icmp_ge_n (a := i) (b := n) (tgt := 38) (by omega) (by omega) hx hb dX0_standingWeight_9 (by decide) (fun c_9 => ?_) (fun c_9 => ?_)
    · have c_9n := Nat.not_lt.mpr c_9
      refine lv_iload_n hx hb dX0_standingWeight_38 rfl (lv_at hl 1 rfl) ?_
      exact rd_iret hx hb hr hlocks dX0_standingWeight_39 (by rw [inv4, gF_end c_9])
    · have c_9n := Nat.not_le.mpr c_9
      refine lv_aload_n hx hb dX0_standingWeight_12 rfl (lv_at hl 0 rfl) ?_
      refine lv_iload_n hx hb dX0_standingWeight_13 rfl (lv_at hl 2 rfl) ?_
      refine rd_callV (As := [.int (nI i)]) (rest := []) ⟨hx, hb, hml, hown, hts⟩ (c_X0_stands l D hbd c_9) (cwV 1 hts gX0_standingWeight_X0_stands rfl rfl rfl (by decide +kernel) ⟨by decide, by decide⟩) hK hN hP hqb rfl rfl hl.1 rfl (Nat.le_of_ble_eq_true rfl) ⟨by decide, by decide⟩ dX0_standingWeight_14 ?_
      refine rd_ifeq_b (tgt := 32) hx hb dX0_standingWeight_17 (by decide) (fun c_17 => ?_) (fun c_17 => ?_)
      · refine lv_iinc (v := nI (i + 1)) (lv' := [(2, .int (nI (i + 1))), (0, .ref ob), (1, .int a)]) hx hb dX0_standingWeight_32 hl (k := 2) rfl (nI_add i 1) (by decide) rfl (fun ls hl => ?_)
        refine lv_goto (tgt := 4) hx hb dX0_standingWeight_35 (by decide) ?_
        exact ih4 (i + 1) a ls (by omega) (by omega) (by rw [inv4, gF_step c_9]; simp [gSWF, bI, c_9n, c_17]) (lv_sub hl [1, 2, 0] rfl)
      · refine lv_iload_n hx hb dX0_standingWeight_20 rfl (lv_at hl 1 rfl) ?_
        refine lv_aload_n hx hb dX0_standingWeight_21 rfl (lv_at hl 0 rfl) ?_
        refine va_get (D := D) (ci := 0) (v := .ref oc) (C := RX0) (T := TX0) (N := 2) hx hb hts hinX0 hown hK hP qb hqb rfl 0 (by decide) hw11 (fun _ h9 => h9) rfl dX0_standingWeight_22 ?_
        refine lv_bipush (v := 32) hx hb dX0_standingWeight_25 (by decide) ?_
        refine lv_iload_n hx hb dX0_standingWeight_27 rfl (lv_at hl 2 rfl) ?_
        refine lv_iadd hx hb dX0_standingWeight_28 ?_
        refine lv_asi (y := nI (32 + i)) (nI_add 32 i) ?_
        refine rd_ald (q0 := qc) (t0 := t0) (j := 32 + i) (v := P i 4) hx hb hK hP hqc ht0 (rfl) (by omega) (by decide) (by rw [show 32 + i = 8 * 4 + i by omega]; exact hf i c_9 4 (by decide)) dX0_standingWeight_29 ?_
        refine lv_iadd hx hb dX0_standingWeight_30 ?_
        refine lv_istore_n (lv' := [(1, .int (a + (P i 4))), (0, .ref ob), (2, .int (nI i))]) hx hb dX0_standingWeight_31 rfl hl (by decide) rfl (fun ls hl => ?_)
        refine lv_iinc (v := nI (i + 1)) (lv' := [(2, .int (nI (i + 1))), (1, .int (a + (P i 4))), (0, .ref ob)]) hx hb dX0_standingWeight_32 hl (k := 2) rfl (nI_add i 1) (by decide) rfl (fun ls hl => ?_)
        refine lv_goto (tgt := 4) hx hb dX0_standingWeight_35 (by decide) ?_
        exact ih4 (i + 1) (a + (P i 4)) ls (by omega) (by omega) (by rw [inv4, gF_step c_9]; simp [gSWF, bI, c_9n, c_17]) (lv_sub hl [2, 1, 0] rfl)
set_option maxHeartbeats 4000000 in
set_option maxRecDepth 100000 in
theorem c_X0_allWeight (l : Launch) (D : va_G) {w : va_W} {tys : List (ClassId × FieldType)} {ob n : Nat} {P : Nat → Nat → Int32} (hbd : bd_in w tys ob n P) : rd_M l yX0_allWeight wsX0_allWeight ({ frames := 0, cells := 0, slots := 0, locals := 0 } : Room) D w tys [.ref ob] (gAW n P) := by
  obtain ⟨qb, qc, t0, oc, cI, f, hqb, hqc, ht0, hn8, hf⟩ := id hbd
  refine rd_of (cc := cX0_allWeight) (maxL := 3) (ret := some .int) (by decide) rfl (Nat.le_of_ble_eq_true rfl) ?_
  intro p e s m below meth c hx hb hr hml hts hown hlocks hP hK hN ls hl
  have hown : s.vm.findClass RX0 = some m.cls := hown
  have hl : lv_has ls 3 [(0, .ref ob)] := hl
  have hw15 := hts (.fieldLink RX0 15 "CornerLabels$Board" "points" "I") (by decide +kernel)
  have hinX0 : ∀ w ∈ u_ws RX0 TX0 2, w ∈ wsX0_allWeight := by decide +kernel
  have hw11 := hts (.fieldLink RX0 11 "CornerLabels$Board" "cells" "[I") (by decide +kernel)
  refine lv_iconst (v := 0) hx hb dX0_allWeight_0 (by decide) ?_
  refine lv_istore_n (lv' := [(1, .int 0), (0, .ref ob)]) hx hb dX0_allWeight_1 rfl hl (by decide) rfl (fun ls hl => ?_)
  refine lv_iconst (v := 0) hx hb dX0_allWeight_2 (by decide) ?_
  refine lv_istore_n (lv' := [(2, .int 0), (1, .int 0), (0, .ref ob)]) hx hb dX0_allWeight_3 rfl hl (by decide) rfl (fun ls hl => ?_)
  suffices loop4 : ∀ (k4 i : Nat) (a : Int32) (ls : Array Slot), i ≤ n → n + 1 ≤ i + k4 → (gAW n P = gF n (gAWF P) i a) → lv_has ls 3 [(0, .ref ob), (1, .int a), (2, .int (nI i))] → rd_W p l e wsX0_allWeight ({ frames := 0, cells := 0, slots := 0, locals := 0 } : Room) s m [.ref ob] below meth c (gAW n P) (F0 m 4 ls []) from
    loop4 (n + 1) 0 0 ls (by omega) (by omega) (by rfl) (lv_sub hl [2, 1, 0] rfl)
  intro k4
  induction k4 with
  | zero => intro i a ls h1 h2; exact absurd h2 (by omega)
  | succ k4 ih4 =>
    intro i a ls hle4 hlt4 inv4 hl
    refine lv_iload_n hx hb dX0_allWeight_4 rfl (lv_at hl 2 rfl) ?_
    refine lv_aload_n hx hb dX0_allWeight_5 rfl (lv_at hl 0 rfl) ?_
    refine va_get (D := D) (ci := 0) (v := .int (nI n)) (C := RX0) (T := TX0) (N := 2) hx hb hts hinX0 hown hK hP qb hqb rfl 1 (by decide) hw15 (fun _ h9 => h9) rfl dX0_allWeight_6 ?_
    refine rd_icmp_ge_n (a := i) (b := n) (tgt := 30) (by omega) (by omega) hx hb dX0_allWeight_9 (by decide) (fun c_9 => ?_) (fun c_9 => ?_)
    · have c_9n := Nat.not_lt.mpr c_9
      refine lv_iload_n hx hb dX0_allWeight_30 rfl (lv_at hl 1 rfl) ?_
      exact rd_iret hx hb hr hlocks dX0_allWeight_31 (by rw [inv4, gF_end c_9])
    · have c_9n := Nat.not_le.mpr c_9
      refine lv_iload_n hx hb dX0_allWeight_12 rfl (lv_at hl 1 rfl) ?_
      refine lv_aload_n hx hb dX0_allWeight_13 rfl (lv_at hl 0 rfl) ?_
      refine va_get (D := D) (ci := 0) (v := .ref oc) (C := RX0) (T := TX0) (N := 2) hx hb hts hinX0 hown hK hP qb hqb rfl 0 (by decide) hw11 (fun _ h9 => h9) rfl dX0_allWeight_14 ?_
      refine lv_bipush (v := 32) hx hb dX0_allWeight_17 (by decide) ?_
      refine lv_iload_n hx hb dX0_allWeight_19 rfl (lv_at hl 2 rfl) ?_
      refine lv_iadd hx hb dX0_allWeight_20 ?_
      refine lv_asi (y := nI (32 + i)) (nI_add 32 i) ?_
      refine rd_ald (q0 := qc) (t0 := t0) (j := 32 + i) (v := P i 4) hx hb hK hP hqc ht0 (rfl) (by omega) (by decide) (by rw [show 32 + i = 8 * 4 + i by omega]; exact hf i c_9 4 (by decide)) dX0_allWeight_21 ?_
      refine lv_iadd hx hb dX0_allWeight_22 ?_
      refine lv_istore_n (lv' := [(1, .int (a + (P i 4))), (0, .ref ob), (2, .int (nI i))]) hx hb dX0_allWeight_23 rfl hl (by decide) rfl (fun ls hl => ?_)
      refine lv_iinc (v := nI (i + 1)) (lv' := [(2, .int (nI (i + 1))), (1, .int (a + (P i 4))), (0, .ref ob)]) hx hb dX0_allWeight_24 hl (k := 2) rfl (nI_add i 1) (by decide) rfl (fun ls hl => ?_)
      refine lv_goto (tgt := 4) hx hb dX0_allWeight_27 (by decide) ?_
      exact ih4 (i + 1) (a + (P i 4)) ls (by omega) (by omega) (by rw [inv4, gF_step c_9]; simp [gAWF, bI, c_9n]) (lv_sub hl [2, 1, 0] rfl)
set_option maxHeartbeats 4000000 in
set_option maxRecDepth 100000 in
theorem c_X0_standingSquares (l : Launch) (D : va_G) {w : va_W} {tys : List (ClassId × FieldType)} {ob n : Nat} {P : Nat → Nat → Int32} (hbd : bd_in w tys ob n P) : rd_M l yX0_standingSquares wsX0_standingSquares ({ frames := 1, cells := 0, slots := 0, locals := 21 } : Room) D w tys [.ref ob] (gSQ n P) := by
  obtain ⟨qb, qc, t0, oc, cI, f, hqb, hqc, ht0, hn8, hf⟩ := id hbd
  refine rd_of (cc := cX0_standingSquares) (maxL := 3) (ret := some .int) (by decide) rfl (Nat.le_of_ble_eq_true rfl) ?_
  intro p e s m below meth c hx hb hr hml hts hown hlocks hP hK hN ls hl
  have hown : s.vm.findClass RX0 = some m.cls := hown
  have hl : lv_has ls 3 [(0, .ref ob)] := hl
  have hw15 := hts (.fieldLink RX0 15 "CornerLabels$Board" "points" "I") (by decide +kernel)
  have hinX0 : ∀ w ∈ u_ws RX0 TX0 2, w ∈ wsX0_standingSquares := by decide +kernel
  have hw11 := hts (.fieldLink RX0 11 "CornerLabels$Board" "cells" "[I") (by decide +kernel)
  refine lv_iconst (v := 0) hx hb dX0_standingSquares_0 (by decide) ?_
  refine lv_istore_n (lv' := [(1, .int 0), (0, .ref ob)]) hx hb dX0_standingSquares_1 rfl hl (by decide) rfl (fun ls hl => ?_)
  refine lv_iconst (v := 0) hx hb dX0_standingSquares_2 (by decide) ?_
  refine lv_istore_n (lv' := [(2, .int 0), (1, .int 0), (0, .ref ob)]) hx hb dX0_standingSquares_3 rfl hl (by decide) rfl (fun ls hl => ?_)
  suffices loop4 : ∀ (k4 i : Nat) (a : Int32) (ls : Array Slot), i ≤ n → n + 1 ≤ i + k4 → (gSQ n P = gF n (gSQF P) i a) → lv_has ls 3 [(0, .ref ob), (1, .int a), (2, .int (nI i))] → rd_W p l e wsX0_standingSquares ({ frames := 1, cells := 0, slots := 0, locals := 21 } : Room) s m [.ref ob] below meth c (gSQ n P) (F0 m 4 ls []) from
    loop4 (n + 1) 0 0 ls (by omega) (by omega) (by rfl) (lv_sub hl [2, 1, 0] rfl)
  intro k4
  induction k4 with
  | zero => intro i a ls h1 h2; exact absurd h2 (by omega)
  | succ k4 ih4 =>
    intro i a ls hle4 hlt4 inv4 hl
    refine lv_iload_n hx hb dX0_standingSquares_4 rfl (lv_at hl 2 rfl) ?_
    refine lv_aload_n hx hb dX0_standingSquares_5 rfl (lv_at hl 0 rfl) ?_
    refine va_get (D := D) (ci := 0) (v := .int (nI n)) (C := RX0) (T := TX0) (N := 2) hx hb hts hinX0 hown hK hP qb hqb rfl 1 (by decide) hw15 (fun _ h9 => h9) rfl dX0_standingSquares_6 ?_
    refine rd_icmp_ge_n (a := i) (b := n) (tgt := 48) (by omega) (by omega) hx hb dX0_standingSquares_9 (by decide) (fun c_9 => ?_) (fun c_9 => ?_)
    · have c_9n := Nat.not_lt.mpr c_9
      refine lv_iload_n hx hb dX0_standingSquares_48 rfl (lv_at hl 1 rfl) ?_
      exact rd_iret hx hb hr hlocks dX0_standingSquares_49 (by rw [inv4, gF_end c_9])
    · have c_9n := Nat.not_le.mpr c_9
      refine lv_aload_n hx hb dX0_standingSquares_12 rfl (lv_at hl 0 rfl) ?_
      refine lv_iload_n hx hb dX0_standingSquares_13 rfl (lv_at hl 2 rfl) ?_
      refine rd_callV (As := [.int (nI i)]) (rest := []) ⟨hx, hb, hml, hown, hts⟩ (c_X0_stands l D hbd c_9) (cwV 1 hts gX0_standingSquares_X0_stands rfl rfl rfl (by decide +kernel) ⟨by decide, by decide⟩) hK hN hP hqb rfl rfl hl.1 rfl (Nat.le_of_ble_eq_true rfl) ⟨by decide, by decide⟩ dX0_standingSquares_14 ?_
      refine rd_ifeq_b (tgt := 42) hx hb dX0_standingSquares_17 (by decide) (fun c_17 => ?_) (fun c_17 => ?_)
      · refine lv_iinc (v := nI (i + 1)) (lv' := [(2, .int (nI (i + 1))), (0, .ref ob), (1, .int a)]) hx hb dX0_standingSquares_42 hl (k := 2) rfl (nI_add i 1) (by decide) rfl (fun ls hl => ?_)
        refine lv_goto (tgt := 4) hx hb dX0_standingSquares_45 (by decide) ?_
        exact ih4 (i + 1) a ls (by omega) (by omega) (by rw [inv4, gF_step c_9]; simp [gSQF, bI, c_9n, c_17]) (lv_sub hl [1, 2, 0] rfl)
      · refine lv_iload_n hx hb dX0_standingSquares_20 rfl (lv_at hl 1 rfl) ?_
        refine lv_aload_n hx hb dX0_standingSquares_21 rfl (lv_at hl 0 rfl) ?_
        refine va_get (D := D) (ci := 0) (v := .ref oc) (C := RX0) (T := TX0) (N := 2) hx hb hts hinX0 hown hK hP qb hqb rfl 0 (by decide) hw11 (fun _ h9 => h9) rfl dX0_standingSquares_22 ?_
        refine lv_bipush (v := 16) hx hb dX0_standingSquares_25 (by decide) ?_
        refine lv_iload_n hx hb dX0_standingSquares_27 rfl (lv_at hl 2 rfl) ?_
        refine lv_iadd hx hb dX0_standingSquares_28 ?_
        refine lv_asi (y := nI (16 + i)) (nI_add 16 i) ?_
        refine rd_ald (q0 := qc) (t0 := t0) (j := 16 + i) (v := P i 2) hx hb hK hP hqc ht0 (rfl) (by omega) (by decide) (by rw [show 16 + i = 8 * 2 + i by omega]; exact hf i c_9 2 (by decide)) dX0_standingSquares_29 ?_
        refine lv_aload_n hx hb dX0_standingSquares_30 rfl (lv_at hl 0 rfl) ?_
        refine va_get (D := D) (ci := 0) (v := .ref oc) (C := RX0) (T := TX0) (N := 2) hx hb hts hinX0 hown hK hP qb hqb rfl 0 (by decide) hw11 (fun _ h9 => h9) rfl dX0_standingSquares_31 ?_
        refine lv_bipush (v := 24) hx hb dX0_standingSquares_34 (by decide) ?_
        refine lv_iload_n hx hb dX0_standingSquares_36 rfl (lv_at hl 2 rfl) ?_
        refine lv_iadd hx hb dX0_standingSquares_37 ?_
        refine lv_asi (y := nI (24 + i)) (nI_add 24 i) ?_
        refine rd_ald (q0 := qc) (t0 := t0) (j := 24 + i) (v := P i 3) hx hb hK hP hqc ht0 (rfl) (by omega) (by decide) (by rw [show 24 + i = 8 * 3 + i by omega]; exact hf i c_9 3 (by decide)) dX0_standingSquares_38 ?_
        refine lv_imul hx hb dX0_standingSquares_39 ?_
        refine lv_iadd hx hb dX0_standingSquares_40 ?_
        refine lv_istore_n (lv' := [(1, .int (a + ((P i 2) * (P i 3)))), (0, .ref ob), (2, .int (nI i))]) hx hb dX0_standingSquares_41 rfl hl (by decide) rfl (fun ls hl => ?_)
        refine lv_iinc (v := nI (i + 1)) (lv' := [(2, .int (nI (i + 1))), (1, .int (a + ((P i 2) * (P i 3)))), (0, .ref ob)]) hx hb dX0_standingSquares_42 hl (k := 2) rfl (nI_add i 1) (by decide) rfl (fun ls hl => ?_)
        refine lv_goto (tgt := 4) hx hb dX0_standingSquares_45 (by decide) ?_
        exact ih4 (i + 1) (a + ((P i 2) * (P i 3))) ls (by omega) (by omega) (by rw [inv4, gF_step c_9]; simp [gSQF, bI, c_9n, c_17]) (lv_sub hl [2, 1, 0] rfl)
set_option maxHeartbeats 4000000 in
set_option maxRecDepth 100000 in
theorem c_X0_pointsWithoutOpenCorner (l : Launch) (D : va_G) {w : va_W} {tys : List (ClassId × FieldType)} {ob n : Nat} {P : Nat → Nat → Int32} (hbd : bd_in w tys ob n P) : rd_M l yX0_pointsWithoutOpenCorner wsX0_pointsWithoutOpenCorner ({ frames := 3, cells := 0, slots := 0, locals := 75 } : Room) D w tys [.ref ob] (gWO n P) := by
  obtain ⟨qb, qc, t0, oc, cI, f, hqb, hqc, ht0, hn8, hf⟩ := id hbd
  refine rd_of (cc := cX0_pointsWithoutOpenCorner) (maxL := 3) (ret := some .int) (by decide) rfl (Nat.le_of_ble_eq_true rfl) ?_
  intro p e s m below meth c hx hb hr hml hts hown hlocks hP hK hN ls hl
  have hown : s.vm.findClass RX0 = some m.cls := hown
  have hl : lv_has ls 3 [(0, .ref ob)] := hl
  have hw15 := hts (.fieldLink RX0 15 "CornerLabels$Board" "points" "I") (by decide +kernel)
  have hinX0 : ∀ w ∈ u_ws RX0 TX0 2, w ∈ wsX0_pointsWithoutOpenCorner := by decide +kernel
  refine lv_iconst (v := 0) hx hb dX0_pointsWithoutOpenCorner_0 (by decide) ?_
  refine lv_istore_n (lv' := [(1, .int 0), (0, .ref ob)]) hx hb dX0_pointsWithoutOpenCorner_1 rfl hl (by decide) rfl (fun ls hl => ?_)
  refine lv_iconst (v := 0) hx hb dX0_pointsWithoutOpenCorner_2 (by decide) ?_
  refine lv_istore_n (lv' := [(2, .int 0), (1, .int 0), (0, .ref ob)]) hx hb dX0_pointsWithoutOpenCorner_3 rfl hl (by decide) rfl (fun ls hl => ?_)
  suffices loop4 : ∀ (k4 i : Nat) (a : Int32) (ls : Array Slot), i ≤ n → n + 1 ≤ i + k4 → (gWO n P = gF n (gWOF n P) i a) → lv_has ls 3 [(0, .ref ob), (1, .int a), (2, .int (nI i))] → rd_W p l e wsX0_pointsWithoutOpenCorner ({ frames := 3, cells := 0, slots := 0, locals := 75 } : Room) s m [.ref ob] below meth c (gWO n P) (F0 m 4 ls []) from
    loop4 (n + 1) 0 0 ls (by omega) (by omega) (by rfl) (lv_sub hl [2, 1, 0] rfl)
  intro k4
  induction k4 with
  | zero => intro i a ls h1 h2; exact absurd h2 (by omega)
  | succ k4 ih4 =>
    intro i a ls hle4 hlt4 inv4 hl
    refine lv_iload_n hx hb dX0_pointsWithoutOpenCorner_4 rfl (lv_at hl 2 rfl) ?_
    refine lv_aload_n hx hb dX0_pointsWithoutOpenCorner_5 rfl (lv_at hl 0 rfl) ?_
    refine va_get (D := D) (ci := 0) (v := .int (nI n)) (C := RX0) (T := TX0) (N := 2) hx hb hts hinX0 hown hK hP qb hqb rfl 1 (by decide) hw15 (fun _ h9 => h9) rfl dX0_pointsWithoutOpenCorner_6 ?_
    refine rd_icmp_ge_n (a := i) (b := n) (tgt := 29) (by omega) (by omega) hx hb dX0_pointsWithoutOpenCorner_9 (by decide) (fun c_9 => ?_) (fun c_9 => ?_)
    · have c_9n := Nat.not_lt.mpr c_9
      refine lv_iload_n hx hb dX0_pointsWithoutOpenCorner_29 rfl (lv_at hl 1 rfl) ?_
      exact rd_iret hx hb hr hlocks dX0_pointsWithoutOpenCorner_30 (by rw [inv4, gF_end c_9])
    · have c_9n := Nat.not_le.mpr c_9
      refine lv_aload_n hx hb dX0_pointsWithoutOpenCorner_12 rfl (lv_at hl 0 rfl) ?_
      refine lv_iload_n hx hb dX0_pointsWithoutOpenCorner_13 rfl (lv_at hl 2 rfl) ?_
      refine rd_callV (As := [.int (nI i)]) (rest := []) ⟨hx, hb, hml, hown, hts⟩ (c_X0_openMask l D hbd c_9) (cwV 1 hts gX0_pointsWithoutOpenCorner_X0_openMask rfl rfl rfl (by decide +kernel) ⟨by decide, by decide⟩) hK hN hP hqb rfl rfl hl.1 rfl (Nat.le_of_ble_eq_true rfl) ⟨by decide, by decide⟩ dX0_pointsWithoutOpenCorner_14 ?_
      refine lv_if_ne (tgt := 23) hx hb dX0_pointsWithoutOpenCorner_17 (by decide) (fun c_17 => ?_) (fun c_17 => ?_)
      · refine lv_iinc (v := nI (i + 1)) (lv' := [(2, .int (nI (i + 1))), (0, .ref ob), (1, .int a)]) hx hb dX0_pointsWithoutOpenCorner_23 hl (k := 2) rfl (nI_add i 1) (by decide) rfl (fun ls hl => ?_)
        refine lv_goto (tgt := 4) hx hb dX0_pointsWithoutOpenCorner_26 (by decide) ?_
        exact ih4 (i + 1) a ls (by omega) (by omega) (by rw [inv4, gF_step c_9]; simp [gWOF, bI, c_9n, c_17]) (lv_sub hl [1, 2, 0] rfl)
      · refine lv_iinc (v := a + 1) (lv' := [(1, .int (a + 1)), (0, .ref ob), (2, .int (nI i))]) hx hb dX0_pointsWithoutOpenCorner_20 hl (k := 1) rfl (rfl) (by decide) rfl (fun ls hl => ?_)
        refine lv_iinc (v := nI (i + 1)) (lv' := [(2, .int (nI (i + 1))), (1, .int (a + 1)), (0, .ref ob)]) hx hb dX0_pointsWithoutOpenCorner_23 hl (k := 2) rfl (nI_add i 1) (by decide) rfl (fun ls hl => ?_)
        refine lv_goto (tgt := 4) hx hb dX0_pointsWithoutOpenCorner_26 (by decide) ?_
        exact ih4 (i + 1) (a + 1) ls (by omega) (by omega) (by rw [inv4, gF_step c_9]; simp [gWOF, bI, c_9n, c_17]) (lv_sub hl [2, 1, 0] rfl)
set_option maxHeartbeats 4000000 in
set_option maxRecDepth 100000 in
theorem c_X0_crossingsOfDropped (l : Launch) (D : va_G) {w : va_W} {tys : List (ClassId × FieldType)} {ob n : Nat} {P : Nat → Nat → Int32} (hbd : bd_in w tys ob n P) : rd_M l yX0_crossingsOfDropped wsX0_crossingsOfDropped ({ frames := 3, cells := 0, slots := 0, locals := 72 } : Room) D w tys [.ref ob] (gCD n P) := by
  obtain ⟨qb, qc, t0, oc, cI, f, hqb, hqc, ht0, hn8, hf⟩ := id hbd
  refine rd_of (cc := cX0_crossingsOfDropped) (maxL := 3) (ret := some .int) (by decide) rfl (Nat.le_of_ble_eq_true rfl) ?_
  intro p e s m below meth c hx hb hr hml hts hown hlocks hP hK hN ls hl
  have hown : s.vm.findClass RX0 = some m.cls := hown
  have hl : lv_has ls 3 [(0, .ref ob)] := hl
  have hw15 := hts (.fieldLink RX0 15 "CornerLabels$Board" "points" "I") (by decide +kernel)
  have hinX0 : ∀ w ∈ u_ws RX0 TX0 2, w ∈ wsX0_crossingsOfDropped := by decide +kernel
  refine lv_iconst (v := 0) hx hb dX0_crossingsOfDropped_0 (by decide) ?_
  refine lv_istore_n (lv' := [(1, .int 0), (0, .ref ob)]) hx hb dX0_crossingsOfDropped_1 rfl hl (by decide) rfl (fun ls hl => ?_)
  refine lv_iconst (v := 0) hx hb dX0_crossingsOfDropped_2 (by decide) ?_
  refine lv_istore_n (lv' := [(2, .int 0), (1, .int 0), (0, .ref ob)]) hx hb dX0_crossingsOfDropped_3 rfl hl (by decide) rfl (fun ls hl => ?_)
  suffices loop4 : ∀ (k4 i : Nat) (a : Int32) (ls : Array Slot), i ≤ n → n + 1 ≤ i + k4 → (gCD n P = gF n (gCDF n P) i a) → lv_has ls 3 [(0, .ref ob), (1, .int a), (2, .int (nI i))] → rd_W p l e wsX0_crossingsOfDropped ({ frames := 3, cells := 0, slots := 0, locals := 72 } : Room) s m [.ref ob] below meth c (gCD n P) (F0 m 4 ls []) from
    loop4 (n + 1) 0 0 ls (by omega) (by omega) (by rfl) (lv_sub hl [2, 1, 0] rfl)
  intro k4
  induction k4 with
  | zero => intro i a ls h1 h2; exact absurd h2 (by omega)
  | succ k4 ih4 =>
    intro i a ls hle4 hlt4 inv4 hl
    refine lv_iload_n hx hb dX0_crossingsOfDropped_4 rfl (lv_at hl 2 rfl) ?_
    refine lv_aload_n hx hb dX0_crossingsOfDropped_5 rfl (lv_at hl 0 rfl) ?_
    refine va_get (D := D) (ci := 0) (v := .int (nI n)) (C := RX0) (T := TX0) (N := 2) hx hb hts hinX0 hown hK hP qb hqb rfl 1 (by decide) hw15 (fun _ h9 => h9) rfl dX0_crossingsOfDropped_6 ?_
    refine rd_icmp_ge_n (a := i) (b := n) (tgt := 34) (by omega) (by omega) hx hb dX0_crossingsOfDropped_9 (by decide) (fun c_9 => ?_) (fun c_9 => ?_)
    · have c_9n := Nat.not_lt.mpr c_9
      refine lv_iload_n hx hb dX0_crossingsOfDropped_34 rfl (lv_at hl 1 rfl) ?_
      exact rd_iret hx hb hr hlocks dX0_crossingsOfDropped_35 (by rw [inv4, gF_end c_9])
    · have c_9n := Nat.not_le.mpr c_9
      refine lv_aload_n hx hb dX0_crossingsOfDropped_12 rfl (lv_at hl 0 rfl) ?_
      refine lv_iload_n hx hb dX0_crossingsOfDropped_13 rfl (lv_at hl 2 rfl) ?_
      refine rd_callV (As := [.int (nI i)]) (rest := []) ⟨hx, hb, hml, hown, hts⟩ (c_X0_stands l D hbd c_9) (cwV 1 hts gX0_crossingsOfDropped_X0_stands rfl rfl rfl (by decide +kernel) ⟨by decide, by decide⟩) hK hN hP hqb rfl rfl hl.1 rfl (Nat.le_of_ble_eq_true rfl) ⟨by decide, by decide⟩ dX0_crossingsOfDropped_14 ?_
      refine rd_ifne_b (tgt := 28) hx hb dX0_crossingsOfDropped_17 (by decide) (fun c_17 => ?_) (fun c_17 => ?_)
      · refine lv_iinc (v := nI (i + 1)) (lv' := [(2, .int (nI (i + 1))), (0, .ref ob), (1, .int a)]) hx hb dX0_crossingsOfDropped_28 hl (k := 2) rfl (nI_add i 1) (by decide) rfl (fun ls hl => ?_)
        refine lv_goto (tgt := 4) hx hb dX0_crossingsOfDropped_31 (by decide) ?_
        exact ih4 (i + 1) a ls (by omega) (by omega) (by rw [inv4, gF_step c_9]; simp [gCDF, bI, c_9n, c_17]) (lv_sub hl [1, 2, 0] rfl)
      · refine lv_iload_n hx hb dX0_crossingsOfDropped_20 rfl (lv_at hl 1 rfl) ?_
        refine lv_aload_n hx hb dX0_crossingsOfDropped_21 rfl (lv_at hl 0 rfl) ?_
        refine lv_iload_n hx hb dX0_crossingsOfDropped_22 rfl (lv_at hl 2 rfl) ?_
        refine rd_callV (As := [.int (nI i)]) (rest := [.int a]) ⟨hx, hb, hml, hown, hts⟩ (c_X0_leaderCrossings l D hbd c_9) (cwV 1 hts gX0_crossingsOfDropped_X0_leaderCrossings rfl rfl rfl (by decide +kernel) ⟨by decide, by decide⟩) hK hN hP hqb rfl rfl hl.1 rfl (Nat.le_of_ble_eq_true rfl) ⟨by decide, by decide⟩ dX0_crossingsOfDropped_23 ?_
        refine lv_iadd hx hb dX0_crossingsOfDropped_26 ?_
        refine lv_istore_n (lv' := [(1, .int (a + (gCr n P i))), (0, .ref ob), (2, .int (nI i))]) hx hb dX0_crossingsOfDropped_27 rfl hl (by decide) rfl (fun ls hl => ?_)
        refine lv_iinc (v := nI (i + 1)) (lv' := [(2, .int (nI (i + 1))), (1, .int (a + (gCr n P i))), (0, .ref ob)]) hx hb dX0_crossingsOfDropped_28 hl (k := 2) rfl (nI_add i 1) (by decide) rfl (fun ls hl => ?_)
        refine lv_goto (tgt := 4) hx hb dX0_crossingsOfDropped_31 (by decide) ?_
        exact ih4 (i + 1) (a + (gCr n P i)) ls (by omega) (by omega) (by rw [inv4, gF_step c_9]; simp [gCDF, bI, c_9n, c_17]) (lv_sub hl [2, 1, 0] rfl)
