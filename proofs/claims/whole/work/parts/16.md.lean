set_option maxHeartbeats 4000000 in
set_option maxRecDepth 100000 in
theorem c_X5_in (l : Launch) (D : va_G) {w : va_W} {tys : List (ClassId × FieldType)} (v a b : Int32) : rd_M l yX5_in wsX5_in ({ frames := 0, cells := 0, slots := 0, locals := 0 } : Room) D w tys [.int v, .int a, .int b] (bI (mIn v a b)) := by
  refine rd_of (cc := cX5_in) (maxL := 3) (ret := some .boolean) (by decide) rfl (Nat.le_of_ble_eq_true rfl) ?_
  intro p e s m below meth c hx hb hr hml hts hown hlocks hP hK hN ls hl
  have hown : s.vm.findClass RX5 = some m.cls := hown
  have hl : lv_has ls 3 [(0, .int v), (1, .int a), (2, .int b)] := hl
  refine lv_iload_n hx hb dX5_in_0 rfl (lv_at hl 0 rfl) ?_
  refine lv_iload_n hx hb dX5_in_1 rfl (lv_at hl 1 rfl) ?_
  refine lv_icmp_lt (tgt := 14) hx hb dX5_in_2 (by decide) (fun c_2 => ?_) (fun c_2 => ?_)
  · have c_2n := Int32.not_le.mpr c_2
    refine lv_iconst (v := 0) hx hb dX5_in_14 (by decide) ?_
    exact rd_zret hx hb hr hlocks dX5_in_15 (by simp [mIn, bI, c_2, c_2n])
  · have c_2n := Int32.not_lt.mp c_2
    refine lv_iload_n hx hb dX5_in_5 rfl (lv_at hl 0 rfl) ?_
    refine lv_iload_n hx hb dX5_in_6 rfl (lv_at hl 2 rfl) ?_
    refine lv_icmp_gt (tgt := 14) hx hb dX5_in_7 (by decide) (fun c_7 => ?_) (fun c_7 => ?_)
    · have c_7n := Int32.not_le.mpr c_7
      refine lv_iconst (v := 0) hx hb dX5_in_14 (by decide) ?_
      exact rd_zret hx hb hr hlocks dX5_in_15 (by simp [mIn, bI, c_2, c_2n, c_7, c_7n])
    · have c_7n := Int32.not_lt.mp c_7
      refine lv_iconst (v := 1) hx hb dX5_in_10 (by decide) ?_
      refine lv_goto (tgt := 15) hx hb dX5_in_11 (by decide) ?_
      exact rd_zret hx hb hr hlocks dX5_in_15 (by simp [mIn, bI, c_2, c_2n, c_7, c_7n])
set_option maxHeartbeats 4000000 in
set_option maxRecDepth 100000 in
theorem c_X5_lesser (l : Launch) (D : va_G) {w : va_W} {tys : List (ClassId × FieldType)} (a b : Int32) : rd_M l yX5_lesser wsX5_lesser ({ frames := 0, cells := 0, slots := 0, locals := 0 } : Room) D w tys [.int a, .int b] (iMin a b) := by
  refine rd_of (cc := cX5_lesser) (maxL := 2) (ret := some .int) (by decide) rfl (Nat.le_of_ble_eq_true rfl) ?_
  intro p e s m below meth c hx hb hr hml hts hown hlocks hP hK hN ls hl
  have hown : s.vm.findClass RX5 = some m.cls := hown
  have hl : lv_has ls 2 [(0, .int a), (1, .int b)] := hl
  refine lv_iload_n hx hb dX5_lesser_0 rfl (lv_at hl 0 rfl) ?_
  refine lv_iload_n hx hb dX5_lesser_1 rfl (lv_at hl 1 rfl) ?_
  refine lv_icmp_ge (tgt := 9) hx hb dX5_lesser_2 (by decide) (fun c_2 => ?_) (fun c_2 => ?_)
  · have c_2n := Int32.not_lt.mpr c_2
    refine lv_iload_n hx hb dX5_lesser_9 rfl (lv_at hl 1 rfl) ?_
    exact rd_iret hx hb hr hlocks dX5_lesser_10 (by rw [iMin_alt]; simp [bI, c_2, c_2n])
  · have c_2n := Int32.not_le.mp c_2
    refine lv_iload_n hx hb dX5_lesser_5 rfl (lv_at hl 0 rfl) ?_
    refine lv_goto (tgt := 10) hx hb dX5_lesser_6 (by decide) ?_
    exact rd_iret hx hb hr hlocks dX5_lesser_10 (by rw [iMin_alt]; simp [bI, c_2, c_2n])
set_option maxHeartbeats 4000000 in
set_option maxRecDepth 100000 in
theorem c_X5_greater (l : Launch) (D : va_G) {w : va_W} {tys : List (ClassId × FieldType)} (a b : Int32) : rd_M l yX5_greater wsX5_greater ({ frames := 0, cells := 0, slots := 0, locals := 0 } : Room) D w tys [.int a, .int b] (iMax a b) := by
  refine rd_of (cc := cX5_greater) (maxL := 2) (ret := some .int) (by decide) rfl (Nat.le_of_ble_eq_true rfl) ?_
  intro p e s m below meth c hx hb hr hml hts hown hlocks hP hK hN ls hl
  have hown : s.vm.findClass RX5 = some m.cls := hown
  have hl : lv_has ls 2 [(0, .int a), (1, .int b)] := hl
  refine lv_iload_n hx hb dX5_greater_0 rfl (lv_at hl 0 rfl) ?_
  refine lv_iload_n hx hb dX5_greater_1 rfl (lv_at hl 1 rfl) ?_
  refine lv_icmp_le (tgt := 9) hx hb dX5_greater_2 (by decide) (fun c_2 => ?_) (fun c_2 => ?_)
  · have c_2n := Int32.not_lt.mpr c_2
    refine lv_iload_n hx hb dX5_greater_9 rfl (lv_at hl 1 rfl) ?_
    exact rd_iret hx hb hr hlocks dX5_greater_10 (by rw [iMax_alt]; simp [bI, c_2, c_2n])
  · have c_2n := Int32.not_le.mp c_2
    refine lv_iload_n hx hb dX5_greater_5 rfl (lv_at hl 0 rfl) ?_
    refine lv_goto (tgt := 10) hx hb dX5_greater_6 (by decide) ?_
    exact rd_iret hx hb hr hlocks dX5_greater_10 (by rw [iMax_alt]; simp [bI, c_2, c_2n])
set_option maxHeartbeats 4000000 in
set_option maxRecDepth 100000 in
theorem c_X5_ones (l : Launch) (D : va_G) {w : va_W} {tys : List (ClassId × FieldType)} (a : Int32) : rd_M l yX5_ones wsX5_ones ({ frames := 0, cells := 0, slots := 0, locals := 0 } : Room) D w tys [.int a] (mOnes a) := by
  refine rd_of (cc := cX5_ones) (maxL := 1) (ret := some .int) (by decide) rfl (Nat.le_of_ble_eq_true rfl) ?_
  intro p e s m below meth c hx hb hr hml hts hown hlocks hP hK hN ls hl
  have hown : s.vm.findClass RX5 = some m.cls := hown
  have hl : lv_has ls 1 [(0, .int a)] := hl
  refine lv_iload_n hx hb dX5_ones_0 rfl (lv_at hl 0 rfl) ?_
  refine lv_iconst (v := 1) hx hb dX5_ones_1 (by decide) ?_
  refine lv_iand hx hb dX5_ones_2 ?_
  refine lv_iload_n hx hb dX5_ones_3 rfl (lv_at hl 0 rfl) ?_
  refine lv_iconst (v := 1) hx hb dX5_ones_4 (by decide) ?_
  refine lv_ishr hx hb dX5_ones_5 ?_
  refine lv_iconst (v := 1) hx hb dX5_ones_6 (by decide) ?_
  refine lv_iand hx hb dX5_ones_7 ?_
  refine lv_iadd hx hb dX5_ones_8 ?_
  refine lv_iload_n hx hb dX5_ones_9 rfl (lv_at hl 0 rfl) ?_
  refine lv_iconst (v := 2) hx hb dX5_ones_10 (by decide) ?_
  refine lv_ishr hx hb dX5_ones_11 ?_
  refine lv_iconst (v := 1) hx hb dX5_ones_12 (by decide) ?_
  refine lv_iand hx hb dX5_ones_13 ?_
  refine lv_iadd hx hb dX5_ones_14 ?_
  refine lv_iload_n hx hb dX5_ones_15 rfl (lv_at hl 0 rfl) ?_
  refine lv_iconst (v := 3) hx hb dX5_ones_16 (by decide) ?_
  refine lv_ishr hx hb dX5_ones_17 ?_
  refine lv_iconst (v := 1) hx hb dX5_ones_18 (by decide) ?_
  refine lv_iand hx hb dX5_ones_19 ?_
  refine lv_iadd hx hb dX5_ones_20 ?_
  exact rd_iret hx hb hr hlocks dX5_ones_21 (by rfl)
set_option maxHeartbeats 4000000 in
set_option maxRecDepth 100000 in
theorem c_X5_isPoint (l : Launch) (D : va_G) {w : va_W} {tys : List (ClassId × FieldType)} {om n : Nat} {P : Nat → Nat → Int32} (hmd : md_in w tys om n P) (x : Int32) : rd_M l yX5_isPoint wsX5_isPoint ({ frames := 1, cells := 0, slots := 0, locals := 22 } : Room) D w tys [.ref om, .int x] (bI (gHas n x)) := by
  obtain ⟨qm, qs, t0, os, cI, S, fs, hqm, hfs, hqs, ht0, hn8, hS0, hS, hbk⟩ := id hmd
  refine rd_of (cc := cX5_isPoint) (maxL := 2) (ret := some .boolean) (by decide) rfl (Nat.le_of_ble_eq_true rfl) ?_
  intro p e s m below meth c hx hb hr hml hts hown hlocks hP hK hN ls hl
  have hown : s.vm.findClass RX5 = some m.cls := hown
  have hl : lv_has ls 2 [(0, .ref om), (1, .int x)] := hl
  have hw7 := hts (.fieldLink RX5 7 "CornerLabelsModel" "s" "[I") (by decide +kernel)
  have hinX5 : ∀ w ∈ u_ws RX5 TX5 16, w ∈ wsX5_isPoint := by decide +kernel
  refine lv_iload_n hx hb dX5_isPoint_0 rfl (lv_at hl 1 rfl) ?_
  refine lv_iconst (v := 0) hx hb dX5_isPoint_1 (by decide) ?_
  refine lv_aload_n hx hb dX5_isPoint_2 rfl (lv_at hl 0 rfl) ?_
  refine va_get (D := D) (ci := 5) (v := .ref os) (C := RX5) (T := TX5) (N := 16) hx hb hts hinX5 hown hK hP qm hqm rfl 1 (by decide) hw7 (fun _ h9 => h9) hfs dX5_isPoint_3 ?_
  refine lv_iconst (v := 0) hx hb dX5_isPoint_6 (by decide) ?_
  refine rd_ald (q0 := qs) (t0 := t0) (j := 0) (v := nI n) hx hb hK hP hqs ht0 (rfl) (by omega) (by decide) (hS0) dX5_isPoint_7 ?_
  refine lv_iconst (v := 1) hx hb dX5_isPoint_8 (by decide) ?_
  refine lv_isub hx hb dX5_isPoint_9 ?_
  refine rd_callS (As := [.int x, .int 0, .int ((nI n) - 1)]) (rest := []) ⟨hx, hb, hml, hown, hts⟩ (c_X5_in l D x 0 ((nI n) - 1)) (va_cwS 3 hts gX5_isPoint_X5_in rfl rfl rfl (by decide +kernel) ⟨by decide, by decide⟩) hK hN hP rfl hl.1 rfl (Nat.le_of_ble_eq_true rfl) ⟨by decide, by decide⟩ dX5_isPoint_10 ?_
  exact rd_zret hx hb hr hlocks dX5_isPoint_13 (by rw [gHas_alt hn8]; rfl)
set_option maxHeartbeats 4000000 in
set_option maxRecDepth 100000 in
theorem c_X5_of (l : Launch) (D : va_G) {w : va_W} {tys : List (ClassId × FieldType)} {om n : Nat} {P : Nat → Nat → Int32} (hmd : md_in w tys om n P) {i : Nat} (hi : i < n) {k : Nat} (hk : k < 6) : rd_M l yX5_of wsX5_of ({ frames := 0, cells := 0, slots := 0, locals := 0 } : Room) D w tys [.ref om, .int (nI i), .int (nI k)] (mOf P i k) := by
  obtain ⟨qm, qs, t0, os, cI, S, fs, hqm, hfs, hqs, ht0, hn8, hS0, hS, hbk⟩ := id hmd
  refine rd_of (cc := cX5_of) (maxL := 3) (ret := some .int) (by decide) rfl (Nat.le_of_ble_eq_true rfl) ?_
  intro p e s m below meth c hx hb hr hml hts hown hlocks hP hK hN ls hl
  have hown : s.vm.findClass RX5 = some m.cls := hown
  have hl : lv_has ls 3 [(0, .ref om), (1, .int (nI i)), (2, .int (nI k))] := hl
  have hw7 := hts (.fieldLink RX5 7 "CornerLabelsModel" "s" "[I") (by decide +kernel)
  have hinX5 : ∀ w ∈ u_ws RX5 TX5 16, w ∈ wsX5_of := by decide +kernel
  refine lv_aload_n hx hb dX5_of_0 rfl (lv_at hl 0 rfl) ?_
  refine va_get (D := D) (ci := 5) (v := .ref os) (C := RX5) (T := TX5) (N := 16) hx hb hts hinX5 hown hK hP qm hqm rfl 1 (by decide) hw7 (fun _ h9 => h9) hfs dX5_of_1 ?_
  refine lv_iconst (v := 1) hx hb dX5_of_4 (by decide) ?_
  refine lv_bipush (v := 6) hx hb dX5_of_5 (by decide) ?_
  refine lv_iload_n hx hb dX5_of_7 rfl (lv_at hl 1 rfl) ?_
  refine lv_imul hx hb dX5_of_8 ?_
  refine lv_asi (y := nI (6 * i)) (pk_mul 6 i) ?_
  refine lv_iadd hx hb dX5_of_9 ?_
  refine lv_asi (y := nI (1 + (6 * i))) (nI_add 1 (6 * i)) ?_
  refine lv_iload_n hx hb dX5_of_10 rfl (lv_at hl 2 rfl) ?_
  refine lv_iadd hx hb dX5_of_11 ?_
  refine lv_asi (y := nI ((1 + (6 * i)) + k)) (nI_add (1 + (6 * i)) k) ?_
  refine rd_ald (q0 := qs) (t0 := t0) (j := (1 + (6 * i)) + k) (v := mOf P i k) hx hb hK hP hqs ht0 (rfl) (by omega) (by decide) (hS i hi k hk) dX5_of_12 ?_
  exact rd_iret hx hb hr hlocks dX5_of_13 (by rfl)
set_option maxHeartbeats 4000000 in
set_option maxRecDepth 100000 in
theorem c_X5_cornerOf (l : Launch) (D : va_G) {w : va_W} {tys : List (ClassId × FieldType)} {om n : Nat} {P : Nat → Nat → Int32} (hmd : md_in w tys om n P) {i : Nat} (hi : i < n) : rd_M l yX5_cornerOf wsX5_cornerOf ({ frames := 1, cells := 0, slots := 0, locals := 22 } : Room) D w tys [.ref om, .int (nI i)] (P i 5) := by
  obtain ⟨qm, qs, t0, os, cI, S, fs, hqm, hfs, hqs, ht0, hn8, hS0, hS, hbk⟩ := id hmd
  refine rd_of (cc := cX5_cornerOf) (maxL := 2) (ret := some .int) (by decide) rfl (Nat.le_of_ble_eq_true rfl) ?_
  intro p e s m below meth c hx hb hr hml hts hown hlocks hP hK hN ls hl
  have hown : s.vm.findClass RX5 = some m.cls := hown
  have hl : lv_has ls 2 [(0, .ref om), (1, .int (nI i))] := hl
  refine lv_aload_n hx hb dX5_cornerOf_0 rfl (lv_at hl 0 rfl) ?_
  refine lv_iload_n hx hb dX5_cornerOf_1 rfl (lv_at hl 1 rfl) ?_
  refine lv_iconst (v := 5) hx hb dX5_cornerOf_2 (by decide) ?_
  refine rd_callV (As := [.int (nI i), .int 5]) (rest := []) ⟨hx, hb, hml, hown, hts⟩ (c_X5_of l D hmd hi (k := 5) (by decide)) (cwV 2 hts gX5_cornerOf_X5_of rfl rfl rfl (by decide +kernel) ⟨by decide, by decide⟩) hK hN hP hqm rfl rfl hl.1 rfl (Nat.le_of_ble_eq_true rfl) ⟨by decide, by decide⟩ dX5_cornerOf_3 ?_
  refine lv_iconst (v := 1) hx hb dX5_cornerOf_6 (by decide) ?_
  refine lv_isub hx hb dX5_cornerOf_7 ?_
  exact rd_iret hx hb hr hlocks dX5_cornerOf_8 (by exact mOf_5 P i)
set_option maxHeartbeats 4000000 in
set_option maxRecDepth 100000 in
theorem c_X5_left (l : Launch) (D : va_G) {w : va_W} {tys : List (ClassId × FieldType)} {om n : Nat} {P : Nat → Nat → Int32} (hmd : md_in w tys om n P) {i : Nat} (hi : i < n) (k : Int32) : rd_M l yX5_left wsX5_left ({ frames := 1, cells := 0, slots := 0, locals := 22 } : Room) D w tys [.ref om, .int (nI i), .int k] (gL P i k) := by
  obtain ⟨qm, qs, t0, os, cI, S, fs, hqm, hfs, hqs, ht0, hn8, hS0, hS, hbk⟩ := id hmd
  refine rd_of (cc := cX5_left) (maxL := 3) (ret := some .int) (by decide) rfl (Nat.le_of_ble_eq_true rfl) ?_
  intro p e s m below meth c hx hb hr hml hts hown hlocks hP hK hN ls hl
  have hown : s.vm.findClass RX5 = some m.cls := hown
  have hl : lv_has ls 3 [(0, .ref om), (1, .int (nI i)), (2, .int k)] := hl
  refine lv_iload_n hx hb dX5_left_0 rfl (lv_at hl 2 rfl) ?_
  refine lv_if_eq (tgt := 9) hx hb dX5_left_1 (by decide) (fun c_1 => ?_) (fun c_1 => ?_)
  · refine lv_aload_n hx hb dX5_left_9 rfl (lv_at hl 0 rfl) ?_
    refine lv_iload_n hx hb dX5_left_10 rfl (lv_at hl 1 rfl) ?_
    refine lv_iconst (v := 0) hx hb dX5_left_11 (by decide) ?_
    refine rd_callV (As := [.int (nI i), .int 0]) (rest := []) ⟨hx, hb, hml, hown, hts⟩ (c_X5_of l D hmd hi (k := 0) (by decide)) (cwV 2 hts gX5_left_X5_of rfl rfl rfl (by decide +kernel) ⟨by decide, by decide⟩) hK hN hP hqm rfl rfl hl.1 rfl (Nat.le_of_ble_eq_true rfl) ⟨by decide, by decide⟩ dX5_left_12 ?_
    refine lv_asi (y := P i 0) (rfl) ?_
    refine lv_iconst (v := 1) hx hb dX5_left_15 (by decide) ?_
    refine lv_iadd hx hb dX5_left_16 ?_
    refine lv_goto (tgt := 33) hx hb dX5_left_17 (by decide) ?_
    exact rd_iret hx hb hr hlocks dX5_left_33 (by simp [gL, bI, c_1])
  · refine lv_iload_n hx hb dX5_left_4 rfl (lv_at hl 2 rfl) ?_
    refine lv_iconst (v := 3) hx hb dX5_left_5 (by decide) ?_
    refine lv_icmp_ne (tgt := 20) hx hb dX5_left_6 (by decide) (fun c_6 => ?_) (fun c_6 => ?_)
    · refine lv_aload_n hx hb dX5_left_20 rfl (lv_at hl 0 rfl) ?_
      refine lv_iload_n hx hb dX5_left_21 rfl (lv_at hl 1 rfl) ?_
      refine lv_iconst (v := 0) hx hb dX5_left_22 (by decide) ?_
      refine rd_callV (As := [.int (nI i), .int 0]) (rest := []) ⟨hx, hb, hml, hown, hts⟩ (c_X5_of l D hmd hi (k := 0) (by decide)) (cwV 2 hts gX5_left_X5_of rfl rfl rfl (by decide +kernel) ⟨by decide, by decide⟩) hK hN hP hqm rfl rfl hl.1 rfl (Nat.le_of_ble_eq_true rfl) ⟨by decide, by decide⟩ dX5_left_23 ?_
      refine lv_asi (y := P i 0) (rfl) ?_
      refine lv_aload_n hx hb dX5_left_26 rfl (lv_at hl 0 rfl) ?_
      refine lv_iload_n hx hb dX5_left_27 rfl (lv_at hl 1 rfl) ?_
      refine lv_iconst (v := 2) hx hb dX5_left_28 (by decide) ?_
      refine rd_callV (As := [.int (nI i), .int 2]) (rest := [.int (P i 0)]) ⟨hx, hb, hml, hown, hts⟩ (c_X5_of l D hmd hi (k := 2) (by decide)) (cwV 2 hts gX5_left_X5_of rfl rfl rfl (by decide +kernel) ⟨by decide, by decide⟩) hK hN hP hqm rfl rfl hl.1 rfl (Nat.le_of_ble_eq_true rfl) ⟨by decide, by decide⟩ dX5_left_29 ?_
      refine lv_asi (y := P i 2) (rfl) ?_
      refine lv_isub hx hb dX5_left_32 ?_
      exact rd_iret hx hb hr hlocks dX5_left_33 (by simp [gL, bI, c_1, c_6])
    · refine lv_aload_n hx hb dX5_left_9 rfl (lv_at hl 0 rfl) ?_
      refine lv_iload_n hx hb dX5_left_10 rfl (lv_at hl 1 rfl) ?_
      refine lv_iconst (v := 0) hx hb dX5_left_11 (by decide) ?_
      refine rd_callV (As := [.int (nI i), .int 0]) (rest := []) ⟨hx, hb, hml, hown, hts⟩ (c_X5_of l D hmd hi (k := 0) (by decide)) (cwV 2 hts gX5_left_X5_of rfl rfl rfl (by decide +kernel) ⟨by decide, by decide⟩) hK hN hP hqm rfl rfl hl.1 rfl (Nat.le_of_ble_eq_true rfl) ⟨by decide, by decide⟩ dX5_left_12 ?_
      refine lv_asi (y := P i 0) (rfl) ?_
      refine lv_iconst (v := 1) hx hb dX5_left_15 (by decide) ?_
      refine lv_iadd hx hb dX5_left_16 ?_
      refine lv_goto (tgt := 33) hx hb dX5_left_17 (by decide) ?_
      exact rd_iret hx hb hr hlocks dX5_left_33 (by simp [gL, bI, c_1, c_6])
set_option maxHeartbeats 4000000 in
set_option maxRecDepth 100000 in
theorem c_X5_right (l : Launch) (D : va_G) {w : va_W} {tys : List (ClassId × FieldType)} {om n : Nat} {P : Nat → Nat → Int32} (hmd : md_in w tys om n P) {i : Nat} (hi : i < n) (k : Int32) : rd_M l yX5_right wsX5_right ({ frames := 2, cells := 0, slots := 0, locals := 44 } : Room) D w tys [.ref om, .int (nI i), .int k] (gL P i k + P i 2 - 1) := by
  obtain ⟨qm, qs, t0, os, cI, S, fs, hqm, hfs, hqs, ht0, hn8, hS0, hS, hbk⟩ := id hmd
  refine rd_of (cc := cX5_right) (maxL := 3) (ret := some .int) (by decide) rfl (Nat.le_of_ble_eq_true rfl) ?_
  intro p e s m below meth c hx hb hr hml hts hown hlocks hP hK hN ls hl
  have hown : s.vm.findClass RX5 = some m.cls := hown
  have hl : lv_has ls 3 [(0, .ref om), (1, .int (nI i)), (2, .int k)] := hl
  refine lv_aload_n hx hb dX5_right_0 rfl (lv_at hl 0 rfl) ?_
  refine lv_iload_n hx hb dX5_right_1 rfl (lv_at hl 1 rfl) ?_
  refine lv_iload_n hx hb dX5_right_2 rfl (lv_at hl 2 rfl) ?_
  refine rd_callV (As := [.int (nI i), .int k]) (rest := []) ⟨hx, hb, hml, hown, hts⟩ (c_X5_left l D hmd hi k) (cwV 2 hts gX5_right_X5_left rfl rfl rfl (by decide +kernel) ⟨by decide, by decide⟩) hK hN hP hqm rfl rfl hl.1 rfl (Nat.le_of_ble_eq_true rfl) ⟨by decide, by decide⟩ dX5_right_3 ?_
  refine lv_aload_n hx hb dX5_right_6 rfl (lv_at hl 0 rfl) ?_
  refine lv_iload_n hx hb dX5_right_7 rfl (lv_at hl 1 rfl) ?_
  refine lv_iconst (v := 2) hx hb dX5_right_8 (by decide) ?_
  refine rd_callV (As := [.int (nI i), .int 2]) (rest := [.int (gL P i k)]) ⟨hx, hb, hml, hown, hts⟩ (c_X5_of l D hmd hi (k := 2) (by decide)) (cwV 2 hts gX5_right_X5_of rfl rfl rfl (by decide +kernel) ⟨by decide, by decide⟩) hK hN hP hqm rfl rfl hl.1 rfl (Nat.le_of_ble_eq_true rfl) ⟨by decide, by decide⟩ dX5_right_9 ?_
  refine lv_asi (y := P i 2) (rfl) ?_
  refine lv_iadd hx hb dX5_right_12 ?_
  refine lv_iconst (v := 1) hx hb dX5_right_13 (by decide) ?_
  refine lv_isub hx hb dX5_right_14 ?_
  exact rd_iret hx hb hr hlocks dX5_right_15 (by rfl)
set_option maxHeartbeats 4000000 in
set_option maxRecDepth 100000 in
theorem c_X5_low (l : Launch) (D : va_G) {w : va_W} {tys : List (ClassId × FieldType)} {om n : Nat} {P : Nat → Nat → Int32} (hmd : md_in w tys om n P) {i : Nat} (hi : i < n) {k : Int32} (hk : ok4 k) : rd_M l yX5_low wsX5_low ({ frames := 1, cells := 0, slots := 0, locals := 22 } : Room) D w tys [.ref om, .int (nI i), .int k] (gT P i k) := by
  obtain ⟨qm, qs, t0, os, cI, S, fs, hqm, hfs, hqs, ht0, hn8, hS0, hS, hbk⟩ := id hmd
  refine rd_of (cc := cX5_low) (maxL := 3) (ret := some .int) (by decide) rfl (Nat.le_of_ble_eq_true rfl) ?_
  intro p e s m below meth c hx hb hr hml hts hown hlocks hP hK hN ls hl
  have hown : s.vm.findClass RX5 = some m.cls := hown
  have hl : lv_has ls 3 [(0, .ref om), (1, .int (nI i)), (2, .int k)] := hl
  refine lv_iload_n hx hb dX5_low_0 rfl (lv_at hl 2 rfl) ?_
  refine lv_iconst (v := 2) hx hb dX5_low_1 (by decide) ?_
  refine lv_icmp_ge (tgt := 16) hx hb dX5_low_2 (by decide) (fun c_2 => ?_) (fun c_2 => ?_)
  · have c_2n := Int32.not_lt.mpr c_2
    refine lv_aload_n hx hb dX5_low_16 rfl (lv_at hl 0 rfl) ?_
    refine lv_iload_n hx hb dX5_low_17 rfl (lv_at hl 1 rfl) ?_
    refine lv_iconst (v := 1) hx hb dX5_low_18 (by decide) ?_
    refine rd_callV (As := [.int (nI i), .int 1]) (rest := []) ⟨hx, hb, hml, hown, hts⟩ (c_X5_of l D hmd hi (k := 1) (by decide)) (cwV 2 hts gX5_low_X5_of rfl rfl rfl (by decide +kernel) ⟨by decide, by decide⟩) hK hN hP hqm rfl rfl hl.1 rfl (Nat.le_of_ble_eq_true rfl) ⟨by decide, by decide⟩ dX5_low_19 ?_
    refine lv_asi (y := P i 1) (rfl) ?_
    refine lv_aload_n hx hb dX5_low_22 rfl (lv_at hl 0 rfl) ?_
    refine lv_iload_n hx hb dX5_low_23 rfl (lv_at hl 1 rfl) ?_
    refine lv_iconst (v := 3) hx hb dX5_low_24 (by decide) ?_
    refine rd_callV (As := [.int (nI i), .int 3]) (rest := [.int (P i 1)]) ⟨hx, hb, hml, hown, hts⟩ (c_X5_of l D hmd hi (k := 3) (by decide)) (cwV 2 hts gX5_low_X5_of rfl rfl rfl (by decide +kernel) ⟨by decide, by decide⟩) hK hN hP hqm rfl rfl hl.1 rfl (Nat.le_of_ble_eq_true rfl) ⟨by decide, by decide⟩ dX5_low_25 ?_
    refine lv_asi (y := P i 3) (rfl) ?_
    refine lv_isub hx hb dX5_low_28 ?_
    exact rd_iret hx hb hr hlocks dX5_low_29 (by simp [gT, (ok4_low hk).symm, bI, c_2, c_2n])
  · have c_2n := Int32.not_le.mp c_2
    refine lv_aload_n hx hb dX5_low_5 rfl (lv_at hl 0 rfl) ?_
    refine lv_iload_n hx hb dX5_low_6 rfl (lv_at hl 1 rfl) ?_
    refine lv_iconst (v := 1) hx hb dX5_low_7 (by decide) ?_
    refine rd_callV (As := [.int (nI i), .int 1]) (rest := []) ⟨hx, hb, hml, hown, hts⟩ (c_X5_of l D hmd hi (k := 1) (by decide)) (cwV 2 hts gX5_low_X5_of rfl rfl rfl (by decide +kernel) ⟨by decide, by decide⟩) hK hN hP hqm rfl rfl hl.1 rfl (Nat.le_of_ble_eq_true rfl) ⟨by decide, by decide⟩ dX5_low_8 ?_
    refine lv_asi (y := P i 1) (rfl) ?_
    refine lv_iconst (v := 1) hx hb dX5_low_11 (by decide) ?_
    refine lv_iadd hx hb dX5_low_12 ?_
    refine lv_goto (tgt := 29) hx hb dX5_low_13 (by decide) ?_
    exact rd_iret hx hb hr hlocks dX5_low_29 (by simp [gT, (ok4_low hk).symm, bI, c_2, c_2n])
set_option maxHeartbeats 4000000 in
set_option maxRecDepth 100000 in
theorem c_X5_high (l : Launch) (D : va_G) {w : va_W} {tys : List (ClassId × FieldType)} {om n : Nat} {P : Nat → Nat → Int32} (hmd : md_in w tys om n P) {i : Nat} (hi : i < n) {k : Int32} (hk : ok4 k) : rd_M l yX5_high wsX5_high ({ frames := 2, cells := 0, slots := 0, locals := 44 } : Room) D w tys [.ref om, .int (nI i), .int k] (gT P i k + P i 3 - 1) := by
  obtain ⟨qm, qs, t0, os, cI, S, fs, hqm, hfs, hqs, ht0, hn8, hS0, hS, hbk⟩ := id hmd
  refine rd_of (cc := cX5_high) (maxL := 3) (ret := some .int) (by decide) rfl (Nat.le_of_ble_eq_true rfl) ?_
  intro p e s m below meth c hx hb hr hml hts hown hlocks hP hK hN ls hl
  have hown : s.vm.findClass RX5 = some m.cls := hown
  have hl : lv_has ls 3 [(0, .ref om), (1, .int (nI i)), (2, .int k)] := hl
  refine lv_aload_n hx hb dX5_high_0 rfl (lv_at hl 0 rfl) ?_
  refine lv_iload_n hx hb dX5_high_1 rfl (lv_at hl 1 rfl) ?_
  refine lv_iload_n hx hb dX5_high_2 rfl (lv_at hl 2 rfl) ?_
  refine rd_callV (As := [.int (nI i), .int k]) (rest := []) ⟨hx, hb, hml, hown, hts⟩ (c_X5_low l D hmd hi hk) (cwV 2 hts gX5_high_X5_low rfl rfl rfl (by decide +kernel) ⟨by decide, by decide⟩) hK hN hP hqm rfl rfl hl.1 rfl (Nat.le_of_ble_eq_true rfl) ⟨by decide, by decide⟩ dX5_high_3 ?_
  refine lv_aload_n hx hb dX5_high_6 rfl (lv_at hl 0 rfl) ?_
  refine lv_iload_n hx hb dX5_high_7 rfl (lv_at hl 1 rfl) ?_
  refine lv_iconst (v := 3) hx hb dX5_high_8 (by decide) ?_
  refine rd_callV (As := [.int (nI i), .int 3]) (rest := [.int (gT P i k)]) ⟨hx, hb, hml, hown, hts⟩ (c_X5_of l D hmd hi (k := 3) (by decide)) (cwV 2 hts gX5_high_X5_of rfl rfl rfl (by decide +kernel) ⟨by decide, by decide⟩) hK hN hP hqm rfl rfl hl.1 rfl (Nat.le_of_ble_eq_true rfl) ⟨by decide, by decide⟩ dX5_high_9 ?_
  refine lv_asi (y := P i 3) (rfl) ?_
  refine lv_iadd hx hb dX5_high_12 ?_
  refine lv_iconst (v := 1) hx hb dX5_high_13 (by decide) ?_
  refine lv_isub hx hb dX5_high_14 ?_
  exact rd_iret hx hb hr hlocks dX5_high_15 (by rfl)
set_option maxHeartbeats 4000000 in
set_option maxRecDepth 100000 in
theorem c_X5_has (l : Launch) (D : va_G) {w : va_W} {tys : List (ClassId × FieldType)} {om n : Nat} {P : Nat → Nat → Int32} (hmd : md_in w tys om n P) {i : Nat} (hi : i < n) {k : Int32} (hk : ok4 k) (x y : Int32) : rd_M l yX5_has wsX5_has ({ frames := 3, cells := 0, slots := 0, locals := 66 } : Room) D w tys [.ref om, .int (nI i), .int k, .int x, .int y] (bI (mHs P i k x y)) := by
  obtain ⟨qm, qs, t0, os, cI, S, fs, hqm, hfs, hqs, ht0, hn8, hS0, hS, hbk⟩ := id hmd
  refine rd_of (cc := cX5_has) (maxL := 5) (ret := some .boolean) (by decide) rfl (Nat.le_of_ble_eq_true rfl) ?_
  intro p e s m below meth c hx hb hr hml hts hown hlocks hP hK hN ls hl
  have hown : s.vm.findClass RX5 = some m.cls := hown
  have hl : lv_has ls 5 [(0, .ref om), (1, .int (nI i)), (2, .int k), (3, .int x), (4, .int y)] := hl
  refine lv_iload_n hx hb dX5_has_0 rfl (lv_at hl 3 rfl) ?_
  refine lv_aload_n hx hb dX5_has_1 rfl (lv_at hl 0 rfl) ?_
  refine lv_iload_n hx hb dX5_has_2 rfl (lv_at hl 1 rfl) ?_
  refine lv_iload_n hx hb dX5_has_3 rfl (lv_at hl 2 rfl) ?_
  refine rd_callV (As := [.int (nI i), .int k]) (rest := [.int x]) ⟨hx, hb, hml, hown, hts⟩ (c_X5_left l D hmd hi k) (cwV 2 hts gX5_has_X5_left rfl rfl rfl (by decide +kernel) ⟨by decide, by decide⟩) hK hN hP hqm rfl rfl hl.1 rfl (Nat.le_of_ble_eq_true rfl) ⟨by decide, by decide⟩ dX5_has_4 ?_
  refine lv_aload_n hx hb dX5_has_7 rfl (lv_at hl 0 rfl) ?_
  refine lv_iload_n hx hb dX5_has_8 rfl (lv_at hl 1 rfl) ?_
  refine lv_iload_n hx hb dX5_has_9 rfl (lv_at hl 2 rfl) ?_
  refine rd_callV (As := [.int (nI i), .int k]) (rest := [.int (gL P i k), .int x]) ⟨hx, hb, hml, hown, hts⟩ (c_X5_right l D hmd hi k) (cwV 2 hts gX5_has_X5_right rfl rfl rfl (by decide +kernel) ⟨by decide, by decide⟩) hK hN hP hqm rfl rfl hl.1 rfl (Nat.le_of_ble_eq_true rfl) ⟨by decide, by decide⟩ dX5_has_10 ?_
  refine rd_callS (As := [.int x, .int (gL P i k), .int (gL P i k + P i 2 - 1)]) (rest := []) ⟨hx, hb, hml, hown, hts⟩ (c_X5_in l D x (gL P i k) (gL P i k + P i 2 - 1)) (va_cwS 3 hts gX5_has_X5_in rfl rfl rfl (by decide +kernel) ⟨by decide, by decide⟩) hK hN hP rfl hl.1 rfl (Nat.le_of_ble_eq_true rfl) ⟨by decide, by decide⟩ dX5_has_13 ?_
  refine rd_ifeq_b (tgt := 43) hx hb dX5_has_16 (by decide) (fun c_16 => ?_) (fun c_16 => ?_)
  · refine lv_iconst (v := 0) hx hb dX5_has_43 (by decide) ?_
    exact rd_zret hx hb hr hlocks dX5_has_44 (by simp [mHs_in, bI, c_16])
  · refine lv_iload hx hb dX5_has_19 (lv_at hl 4 rfl) ?_
    refine lv_aload_n hx hb dX5_has_21 rfl (lv_at hl 0 rfl) ?_
    refine lv_iload_n hx hb dX5_has_22 rfl (lv_at hl 1 rfl) ?_
    refine lv_iload_n hx hb dX5_has_23 rfl (lv_at hl 2 rfl) ?_
    refine rd_callV (As := [.int (nI i), .int k]) (rest := [.int y]) ⟨hx, hb, hml, hown, hts⟩ (c_X5_low l D hmd hi hk) (cwV 2 hts gX5_has_X5_low rfl rfl rfl (by decide +kernel) ⟨by decide, by decide⟩) hK hN hP hqm rfl rfl hl.1 rfl (Nat.le_of_ble_eq_true rfl) ⟨by decide, by decide⟩ dX5_has_24 ?_
    refine lv_aload_n hx hb dX5_has_27 rfl (lv_at hl 0 rfl) ?_
    refine lv_iload_n hx hb dX5_has_28 rfl (lv_at hl 1 rfl) ?_
    refine lv_iload_n hx hb dX5_has_29 rfl (lv_at hl 2 rfl) ?_
    refine rd_callV (As := [.int (nI i), .int k]) (rest := [.int (gT P i k), .int y]) ⟨hx, hb, hml, hown, hts⟩ (c_X5_high l D hmd hi hk) (cwV 2 hts gX5_has_X5_high rfl rfl rfl (by decide +kernel) ⟨by decide, by decide⟩) hK hN hP hqm rfl rfl hl.1 rfl (Nat.le_of_ble_eq_true rfl) ⟨by decide, by decide⟩ dX5_has_30 ?_
    refine rd_callS (As := [.int y, .int (gT P i k), .int (gT P i k + P i 3 - 1)]) (rest := []) ⟨hx, hb, hml, hown, hts⟩ (c_X5_in l D y (gT P i k) (gT P i k + P i 3 - 1)) (va_cwS 3 hts gX5_has_X5_in rfl rfl rfl (by decide +kernel) ⟨by decide, by decide⟩) hK hN hP rfl hl.1 rfl (Nat.le_of_ble_eq_true rfl) ⟨by decide, by decide⟩ dX5_has_33 ?_
    refine rd_ifeq_b (tgt := 43) hx hb dX5_has_36 (by decide) (fun c_36 => ?_) (fun c_36 => ?_)
    · refine lv_iconst (v := 0) hx hb dX5_has_43 (by decide) ?_
      exact rd_zret hx hb hr hlocks dX5_has_44 (by simp [mHs_in, bI, c_16, c_36])
    · refine lv_iconst (v := 1) hx hb dX5_has_39 (by decide) ?_
      refine lv_goto (tgt := 44) hx hb dX5_has_40 (by decide) ?_
      exact rd_zret hx hb hr hlocks dX5_has_44 (by simp [mHs_in, bI, c_16, c_36])
set_option maxHeartbeats 4000000 in
set_option maxRecDepth 100000 in
theorem c_X5_isOpen (l : Launch) (D : va_G) {w : va_W} {tys : List (ClassId × FieldType)} {om n : Nat} {P : Nat → Nat → Int32} (hmd : md_in w tys om n P) {i : Nat} (hi : i < n) {k : Int32} (hk : ok4 k) : rd_M l yX5_isOpen wsX5_isOpen ({ frames := 4, cells := 0, slots := 0, locals := 90 } : Room) D w tys [.ref om, .int (nI i), .int k] (bI (gOp n P i k)) := by
  obtain ⟨qm, qs, t0, os, cI, S, fs, hqm, hfs, hqs, ht0, hn8, hS0, hS, hbk⟩ := id hmd
  refine rd_of (cc := cX5_isOpen) (maxL := 5) (ret := some .boolean) (by decide) rfl (Nat.le_of_ble_eq_true rfl) ?_
  intro p e s m below meth c hx hb hr hml hts hown hlocks hP hK hN ls hl
  have hown : s.vm.findClass RX5 = some m.cls := hown
  have hl : lv_has ls 5 [(0, .ref om), (1, .int (nI i)), (2, .int k)] := hl
  have hw7 := hts (.fieldLink RX5 7 "CornerLabelsModel" "s" "[I") (by decide +kernel)
  have hinX5 : ∀ w ∈ u_ws RX5 TX5 16, w ∈ wsX5_isOpen := by decide +kernel
  suffices j45 : ∀ ls : Array Slot, lv_has ls 5 [(0, .ref om), (1, .int (nI i)), (2, .int k)] → rd_W p l e wsX5_isOpen ({ frames := 4, cells := 0, slots := 0, locals := 90 } : Room) s m [.ref om, .int (nI i), .int k] below meth c (bI (gOp n P i k)) (F0 m 45 ls [.int (bI (gOpM P i k))]) by
    refine lv_aload_n hx hb dX5_isOpen_0 rfl (lv_at hl 0 rfl) ?_
    refine lv_iload_n hx hb dX5_isOpen_1 rfl (lv_at hl 1 rfl) ?_
    refine lv_iload_n hx hb dX5_isOpen_2 rfl (lv_at hl 2 rfl) ?_
    refine rd_callV (As := [.int (nI i), .int k]) (rest := []) ⟨hx, hb, hml, hown, hts⟩ (c_X5_left l D hmd hi k) (cwV 2 hts gX5_isOpen_X5_left rfl rfl rfl (by decide +kernel) ⟨by decide, by decide⟩) hK hN hP hqm rfl rfl hl.1 rfl (Nat.le_of_ble_eq_true rfl) ⟨by decide, by decide⟩ dX5_isOpen_3 ?_
    refine lv_if_lt (tgt := 44) hx hb dX5_isOpen_6 (by decide) (fun c_6 => ?_) (fun c_6 => ?_)
    · have c_6n := Int32.not_le.mpr c_6
      refine lv_iconst (v := 0) hx hb dX5_isOpen_44 (by decide) ?_
      refine lv_asi (y := bI (gOpM P i k)) (by simp [gOpM, bI, c_6, c_6n]) ?_
      exact j45 ls (lv_sub hl [0, 1, 2] rfl)
    · have c_6n := Int32.not_lt.mp c_6
      refine lv_aload_n hx hb dX5_isOpen_9 rfl (lv_at hl 0 rfl) ?_
      refine lv_iload_n hx hb dX5_isOpen_10 rfl (lv_at hl 1 rfl) ?_
      refine lv_iload_n hx hb dX5_isOpen_11 rfl (lv_at hl 2 rfl) ?_
      refine rd_callV (As := [.int (nI i), .int k]) (rest := []) ⟨hx, hb, hml, hown, hts⟩ (c_X5_right l D hmd hi k) (cwV 2 hts gX5_isOpen_X5_right rfl rfl rfl (by decide +kernel) ⟨by decide, by decide⟩) hK hN hP hqm rfl rfl hl.1 rfl (Nat.le_of_ble_eq_true rfl) ⟨by decide, by decide⟩ dX5_isOpen_12 ?_
      refine lv_bipush (v := 60) hx hb dX5_isOpen_15 (by decide) ?_
      refine lv_icmp_ge (tgt := 44) hx hb dX5_isOpen_17 (by decide) (fun c_17 => ?_) (fun c_17 => ?_)
      · have c_17n := Int32.not_lt.mpr c_17
        refine lv_iconst (v := 0) hx hb dX5_isOpen_44 (by decide) ?_
        refine lv_asi (y := bI (gOpM P i k)) (by simp [gOpM, bI, c_6, c_6n, c_17, c_17n]) ?_
        exact j45 ls (lv_sub hl [0, 1, 2] rfl)
      · have c_17n := Int32.not_le.mp c_17
        refine lv_aload_n hx hb dX5_isOpen_20 rfl (lv_at hl 0 rfl) ?_
        refine lv_iload_n hx hb dX5_isOpen_21 rfl (lv_at hl 1 rfl) ?_
        refine lv_iload_n hx hb dX5_isOpen_22 rfl (lv_at hl 2 rfl) ?_
        refine rd_callV (As := [.int (nI i), .int k]) (rest := []) ⟨hx, hb, hml, hown, hts⟩ (c_X5_low l D hmd hi hk) (cwV 2 hts gX5_isOpen_X5_low rfl rfl rfl (by decide +kernel) ⟨by decide, by decide⟩) hK hN hP hqm rfl rfl hl.1 rfl (Nat.le_of_ble_eq_true rfl) ⟨by decide, by decide⟩ dX5_isOpen_23 ?_
        refine lv_if_lt (tgt := 44) hx hb dX5_isOpen_26 (by decide) (fun c_26 => ?_) (fun c_26 => ?_)
        · have c_26n := Int32.not_le.mpr c_26
          refine lv_iconst (v := 0) hx hb dX5_isOpen_44 (by decide) ?_
          refine lv_asi (y := bI (gOpM P i k)) (by simp [gOpM, bI, c_6, c_6n, c_17, c_17n, c_26, c_26n]) ?_
          exact j45 ls (lv_sub hl [0, 1, 2] rfl)
        · have c_26n := Int32.not_lt.mp c_26
          refine lv_aload_n hx hb dX5_isOpen_29 rfl (lv_at hl 0 rfl) ?_
          refine lv_iload_n hx hb dX5_isOpen_30 rfl (lv_at hl 1 rfl) ?_
          refine lv_iload_n hx hb dX5_isOpen_31 rfl (lv_at hl 2 rfl) ?_
          refine rd_callV (As := [.int (nI i), .int k]) (rest := []) ⟨hx, hb, hml, hown, hts⟩ (c_X5_high l D hmd hi hk) (cwV 2 hts gX5_isOpen_X5_high rfl rfl rfl (by decide +kernel) ⟨by decide, by decide⟩) hK hN hP hqm rfl rfl hl.1 rfl (Nat.le_of_ble_eq_true rfl) ⟨by decide, by decide⟩ dX5_isOpen_32 ?_
          refine lv_bipush (v := 40) hx hb dX5_isOpen_35 (by decide) ?_
          refine lv_icmp_ge (tgt := 44) hx hb dX5_isOpen_37 (by decide) (fun c_37 => ?_) (fun c_37 => ?_)
          · have c_37n := Int32.not_lt.mpr c_37
            refine lv_iconst (v := 0) hx hb dX5_isOpen_44 (by decide) ?_
            refine lv_asi (y := bI (gOpM P i k)) (by simp [gOpM, bI, c_6, c_6n, c_17, c_17n, c_26, c_26n, c_37, c_37n]) ?_
            exact j45 ls (lv_sub hl [0, 1, 2] rfl)
          · have c_37n := Int32.not_le.mp c_37
            refine lv_iconst (v := 1) hx hb dX5_isOpen_40 (by decide) ?_
            refine lv_goto (tgt := 45) hx hb dX5_isOpen_41 (by decide) ?_
            refine lv_asi (y := bI (gOpM P i k)) (by simp [gOpM, bI, c_6, c_6n, c_17, c_17n, c_26, c_26n, c_37, c_37n]) ?_
            exact j45 ls (lv_sub hl [0, 1, 2] rfl)
  intro ls hl
  refine lv_istore_n (lv' := [(3, .int (bI (gOpM P i k))), (0, .ref om), (1, .int (nI i)), (2, .int k)]) hx hb dX5_isOpen_45 rfl hl (by decide) rfl (fun ls hl => ?_)
  refine lv_iconst (v := 0) hx hb dX5_isOpen_46 (by decide) ?_
  refine lv_istore (lv' := [(4, .int 0), (3, .int (bI (gOpM P i k))), (0, .ref om), (1, .int (nI i)), (2, .int k)]) hx hb dX5_isOpen_47 hl (by decide) rfl (fun ls hl => ?_)
  suffices loop49 : ∀ (k49 j : Nat) (b : Bool) (ls : Array Slot), j ≤ n → n + 1 ≤ j + k49 → (gOp n P i k = (b && !gE n (gHit P i k) j)) → lv_has ls 5 [(0, .ref om), (1, .int (nI i)), (2, .int k), (3, .int (bI b)), (4, .int (nI j))] → rd_W p l e wsX5_isOpen ({ frames := 4, cells := 0, slots := 0, locals := 90 } : Room) s m [.ref om, .int (nI i), .int k] below meth c (bI (gOp n P i k)) (F0 m 49 ls []) from
    loop49 (n + 1) 0 (gOpM P i k) ls (by omega) (by omega) (by rfl) (lv_sub hl [2, 3, 4, 1, 0] rfl)
  intro k49
  induction k49 with
  | zero => intro j b ls h1 h2; exact absurd h2 (by omega)
  | succ k49 ih49 =>
    intro j b ls hle49 hlt49 inv49 hl
    refine lv_iload hx hb dX5_isOpen_49 (lv_at hl 4 rfl) ?_
    refine lv_aload_n hx hb dX5_isOpen_51 rfl (lv_at hl 0 rfl) ?_
    refine va_get (D := D) (ci := 5) (v := .ref os) (C := RX5) (T := TX5) (N := 16) hx hb hts hinX5 hown hK hP qm hqm rfl 1 (by decide) hw7 (fun _ h9 => h9) hfs dX5_isOpen_52 ?_
    refine lv_iconst (v := 0) hx hb dX5_isOpen_55 (by decide) ?_
    refine rd_ald (q0 := qs) (t0 := t0) (j := 0) (v := nI n) hx hb hK hP hqs ht0 (rfl) (by omega) (by decide) (hS0) dX5_isOpen_56 ?_
    refine rd_icmp_ge_n (a := j) (b := n) (tgt := 99) (by omega) (by omega) hx hb dX5_isOpen_57 (by decide) (fun c_57 => ?_) (fun c_57 => ?_)
    · have c_57n := Nat.not_lt.mpr c_57
      refine lv_iload_n hx hb dX5_isOpen_99 rfl (lv_at hl 3 rfl) ?_
      exact rd_zret hx hb hr hlocks dX5_isOpen_100 (by rw [inv49, gE_end c_57]; simp)
    · have c_57n := Nat.not_le.mpr c_57
      refine lv_iload_n hx hb dX5_isOpen_60 rfl (lv_at hl 3 rfl) ?_
      refine rd_ifeq_b (tgt := 91) hx hb dX5_isOpen_61 (by decide) (fun c_61 => ?_) (fun c_61 => ?_)
      · refine lv_iconst (v := 0) hx hb dX5_isOpen_91 (by decide) ?_
        refine lv_istore_n (lv' := [(3, .int 0), (0, .ref om), (1, .int (nI i)), (2, .int k), (4, .int (nI j))]) hx hb dX5_isOpen_92 rfl hl (by decide) rfl (fun ls hl => ?_)
        refine lv_iinc (v := nI (j + 1)) (lv' := [(4, .int (nI (j + 1))), (3, .int 0), (0, .ref om), (1, .int (nI i)), (2, .int k)]) hx hb dX5_isOpen_93 hl (k := 4) rfl (nI_add j 1) (by decide) rfl (fun ls hl => ?_)
        refine lv_goto (tgt := 49) hx hb dX5_isOpen_96 (by decide) ?_
        exact ih49 (j + 1) false ls (by omega) (by omega) (by rw [inv49, gE_step c_57]; simp [gHit_mHs, bI, c_57n, c_61]) (lv_sub hl [2, 3, 4, 1, 0] rfl)
      · refine lv_aload_n hx hb dX5_isOpen_64 rfl (lv_at hl 0 rfl) ?_
        refine lv_iload_n hx hb dX5_isOpen_65 rfl (lv_at hl 1 rfl) ?_
        refine lv_iload_n hx hb dX5_isOpen_66 rfl (lv_at hl 2 rfl) ?_
        refine lv_aload_n hx hb dX5_isOpen_67 rfl (lv_at hl 0 rfl) ?_
        refine lv_iload hx hb dX5_isOpen_68 (lv_at hl 4 rfl) ?_
        refine lv_iconst (v := 0) hx hb dX5_isOpen_70 (by decide) ?_
        refine rd_callV (As := [.int (nI j), .int 0]) (rest := [.int k, .int (nI i), .ref om]) ⟨hx, hb, hml, hown, hts⟩ (c_X5_of l D hmd c_57 (k := 0) (by decide)) (cwV 2 hts gX5_isOpen_X5_of rfl rfl rfl (by decide +kernel) ⟨by decide, by decide⟩) hK hN hP hqm rfl rfl hl.1 rfl (Nat.le_of_ble_eq_true rfl) ⟨by decide, by decide⟩ dX5_isOpen_71 ?_
        refine lv_asi (y := P j 0) (rfl) ?_
        refine lv_aload_n hx hb dX5_isOpen_74 rfl (lv_at hl 0 rfl) ?_
        refine lv_iload hx hb dX5_isOpen_75 (lv_at hl 4 rfl) ?_
        refine lv_iconst (v := 1) hx hb dX5_isOpen_77 (by decide) ?_
        refine rd_callV (As := [.int (nI j), .int 1]) (rest := [.int (P j 0), .int k, .int (nI i), .ref om]) ⟨hx, hb, hml, hown, hts⟩ (c_X5_of l D hmd c_57 (k := 1) (by decide)) (cwV 2 hts gX5_isOpen_X5_of rfl rfl rfl (by decide +kernel) ⟨by decide, by decide⟩) hK hN hP hqm rfl rfl hl.1 rfl (Nat.le_of_ble_eq_true rfl) ⟨by decide, by decide⟩ dX5_isOpen_78 ?_
        refine lv_asi (y := P j 1) (rfl) ?_
        refine rd_callV (As := [.int (nI i), .int k, .int (P j 0), .int (P j 1)]) (rest := []) ⟨hx, hb, hml, hown, hts⟩ (c_X5_has l D hmd hi hk (P j 0) (P j 1)) (cwV 4 hts gX5_isOpen_X5_has rfl rfl rfl (by decide +kernel) ⟨by decide, by decide⟩) hK hN hP hqm rfl rfl hl.1 rfl (Nat.le_of_ble_eq_true rfl) ⟨by decide, by decide⟩ dX5_isOpen_81 ?_
        refine rd_ifne_b (tgt := 91) hx hb dX5_isOpen_84 (by decide) (fun c_84 => ?_) (fun c_84 => ?_)
        · refine lv_iconst (v := 0) hx hb dX5_isOpen_91 (by decide) ?_
          refine lv_istore_n (lv' := [(3, .int 0), (0, .ref om), (1, .int (nI i)), (2, .int k), (4, .int (nI j))]) hx hb dX5_isOpen_92 rfl hl (by decide) rfl (fun ls hl => ?_)
          refine lv_iinc (v := nI (j + 1)) (lv' := [(4, .int (nI (j + 1))), (3, .int 0), (0, .ref om), (1, .int (nI i)), (2, .int k)]) hx hb dX5_isOpen_93 hl (k := 4) rfl (nI_add j 1) (by decide) rfl (fun ls hl => ?_)
          refine lv_goto (tgt := 49) hx hb dX5_isOpen_96 (by decide) ?_
          exact ih49 (j + 1) false ls (by omega) (by omega) (by rw [inv49, gE_step c_57]; simp [gHit_mHs, bI, c_57n, c_61, c_84]) (lv_sub hl [2, 3, 4, 1, 0] rfl)
        · refine lv_iconst (v := 1) hx hb dX5_isOpen_87 (by decide) ?_
          refine lv_goto (tgt := 92) hx hb dX5_isOpen_88 (by decide) ?_
          refine lv_istore_n (lv' := [(3, .int 1), (0, .ref om), (1, .int (nI i)), (2, .int k), (4, .int (nI j))]) hx hb dX5_isOpen_92 rfl hl (by decide) rfl (fun ls hl => ?_)
          refine lv_iinc (v := nI (j + 1)) (lv' := [(4, .int (nI (j + 1))), (3, .int 1), (0, .ref om), (1, .int (nI i)), (2, .int k)]) hx hb dX5_isOpen_93 hl (k := 4) rfl (nI_add j 1) (by decide) rfl (fun ls hl => ?_)
          refine lv_goto (tgt := 49) hx hb dX5_isOpen_96 (by decide) ?_
          exact ih49 (j + 1) true ls (by omega) (by omega) (by rw [inv49, gE_step c_57]; simp [gHit_mHs, bI, c_57n, c_61, c_84]) (lv_sub hl [2, 3, 4, 1, 0] rfl)
set_option maxHeartbeats 4000000 in
set_option maxRecDepth 100000 in
theorem c_X5_openOf (l : Launch) (D : va_G) {w : va_W} {tys : List (ClassId × FieldType)} {om n : Nat} {P : Nat → Nat → Int32} (hmd : md_in w tys om n P) {i : Nat} (hi : i < n) : rd_M l yX5_openOf wsX5_openOf ({ frames := 5, cells := 0, slots := 0, locals := 114 } : Room) D w tys [.ref om, .int (nI i)] (gMk n P i) := by
  obtain ⟨qm, qs, t0, os, cI, S, fs, hqm, hfs, hqs, ht0, hn8, hS0, hS, hbk⟩ := id hmd
  refine rd_of (cc := cX5_openOf) (maxL := 4) (ret := some .int) (by decide) rfl (Nat.le_of_ble_eq_true rfl) ?_
  intro p e s m below meth c hx hb hr hml hts hown hlocks hP hK hN ls hl
  have hown : s.vm.findClass RX5 = some m.cls := hown
  have hl : lv_has ls 4 [(0, .ref om), (1, .int (nI i))] := hl
  refine lv_iconst (v := 0) hx hb dX5_openOf_0 (by decide) ?_
  refine lv_istore_n (lv' := [(2, .int 0), (0, .ref om), (1, .int (nI i))]) hx hb dX5_openOf_1 rfl hl (by decide) rfl (fun ls hl => ?_)
  refine lv_iconst (v := 0) hx hb dX5_openOf_2 (by decide) ?_
  refine lv_istore_n (lv' := [(3, .int 0), (2, .int 0), (0, .ref om), (1, .int (nI i))]) hx hb dX5_openOf_3 rfl hl (by decide) rfl (fun ls hl => ?_)
  suffices loop4 : ∀ (k4 k : Nat) (a : Int32) (ls : Array Slot), k ≤ 4 → 4 + 1 ≤ k + k4 → (gMk n P i = gF 4 (gMkF n P i) k a) → lv_has ls 4 [(0, .ref om), (1, .int (nI i)), (2, .int a), (3, .int (nI k))] → rd_W p l e wsX5_openOf ({ frames := 5, cells := 0, slots := 0, locals := 114 } : Room) s m [.ref om, .int (nI i)] below meth c (gMk n P i) (F0 m 4 ls []) from
    loop4 (4 + 1) 0 0 ls (by omega) (by omega) (by rfl) (lv_sub hl [2, 3, 1, 0] rfl)
  intro k4
  induction k4 with
  | zero => intro k a ls h1 h2; exact absurd h2 (by omega)
  | succ k4 ih4 =>
    intro k a ls hle4 hlt4 inv4 hl
    refine lv_iload_n hx hb dX5_openOf_4 rfl (lv_at hl 3 rfl) ?_
    refine lv_iconst (v := 4) hx hb dX5_openOf_5 (by decide) ?_
    refine rd_icmp_ge_n (a := k) (b := 4) (tgt := 34) (by omega) (by omega) hx hb dX5_openOf_6 (by decide) (fun c_6 => ?_) (fun c_6 => ?_)
    · have c_6n := Nat.not_lt.mpr c_6
      refine lv_iload_n hx hb dX5_openOf_34 rfl (lv_at hl 2 rfl) ?_
      exact rd_iret hx hb hr hlocks dX5_openOf_35 (by rw [inv4, gF_end c_6])
    · have c_6n := Nat.not_le.mpr c_6
      refine lv_iload_n hx hb dX5_openOf_9 rfl (lv_at hl 2 rfl) ?_
      refine lv_aload_n hx hb dX5_openOf_10 rfl (lv_at hl 0 rfl) ?_
      refine lv_iload_n hx hb dX5_openOf_11 rfl (lv_at hl 1 rfl) ?_
      refine lv_iload_n hx hb dX5_openOf_12 rfl (lv_at hl 3 rfl) ?_
      refine rd_callV (As := [.int (nI i), .int (nI k)]) (rest := [.int a]) ⟨hx, hb, hml, hown, hts⟩ (c_X5_isOpen l D hmd hi (ok4_nI c_6)) (cwV 2 hts gX5_openOf_X5_isOpen rfl rfl rfl (by decide +kernel) ⟨by decide, by decide⟩) hK hN hP hqm rfl rfl hl.1 rfl (Nat.le_of_ble_eq_true rfl) ⟨by decide, by decide⟩ dX5_openOf_13 ?_
      refine rd_ifeq_b (tgt := 25) hx hb dX5_openOf_16 (by decide) (fun c_16 => ?_) (fun c_16 => ?_)
      · refine lv_iconst (v := 0) hx hb dX5_openOf_25 (by decide) ?_
        refine lv_ior hx hb dX5_openOf_26 ?_
        refine lv_istore_n (lv' := [(2, .int (a ||| 0)), (0, .ref om), (1, .int (nI i)), (3, .int (nI k))]) hx hb dX5_openOf_27 rfl hl (by decide) rfl (fun ls hl => ?_)
        refine lv_iinc (v := nI (k + 1)) (lv' := [(3, .int (nI (k + 1))), (2, .int (a ||| 0)), (0, .ref om), (1, .int (nI i))]) hx hb dX5_openOf_28 hl (k := 3) rfl (nI_add k 1) (by decide) rfl (fun ls hl => ?_)
        refine lv_goto (tgt := 4) hx hb dX5_openOf_31 (by decide) ?_
        exact ih4 (k + 1) (a ||| 0) ls (by omega) (by omega) (by rw [inv4, gF_step c_6]; simp [gMkF, gBit, bI, c_6n, c_16]) (lv_sub hl [2, 3, 1, 0] rfl)
      · refine lv_iconst (v := 1) hx hb dX5_openOf_19 (by decide) ?_
        refine lv_iload_n hx hb dX5_openOf_20 rfl (lv_at hl 3 rfl) ?_
        refine lv_ishl hx hb dX5_openOf_21 ?_
        refine lv_goto (tgt := 26) hx hb dX5_openOf_22 (by decide) ?_
        refine lv_ior hx hb dX5_openOf_26 ?_
        refine lv_istore_n (lv' := [(2, .int (a ||| (1 <<< (nI k &&& 31)))), (0, .ref om), (1, .int (nI i)), (3, .int (nI k))]) hx hb dX5_openOf_27 rfl hl (by decide) rfl (fun ls hl => ?_)
        refine lv_iinc (v := nI (k + 1)) (lv' := [(3, .int (nI (k + 1))), (2, .int (a ||| (1 <<< (nI k &&& 31)))), (0, .ref om), (1, .int (nI i))]) hx hb dX5_openOf_28 hl (k := 3) rfl (nI_add k 1) (by decide) rfl (fun ls hl => ?_)
        refine lv_goto (tgt := 4) hx hb dX5_openOf_31 (by decide) ?_
        exact ih4 (k + 1) (a ||| (1 <<< (nI k &&& 31))) ls (by omega) (by omega) (by rw [inv4, gF_step c_6]; simp [gMkF, gBit, bI, c_6n, c_16]) (lv_sub hl [2, 3, 1, 0] rfl)
set_option maxHeartbeats 4000000 in
set_option maxRecDepth 100000 in
theorem c_X5_common (l : Launch) (D : va_G) {w : va_W} {tys : List (ClassId × FieldType)} {om n : Nat} {P : Nat → Nat → Int32} (hmd : md_in w tys om n P) {i : Nat} (hi : i < n) {k : Int32} (hk : ok4 k) {j : Nat} (hj : j < n) {d : Int32} (hd : ok4 d) : rd_M l yX5_common wsX5_common ({ frames := 3, cells := 0, slots := 0, locals := 66 } : Room) D w tys [.ref om, .int (nI i), .int k, .int (nI j), .int d] (gSh P i k j d) := by
  obtain ⟨qm, qs, t0, os, cI, S, fs, hqm, hfs, hqs, ht0, hn8, hS0, hS, hbk⟩ := id hmd
  refine rd_of (cc := cX5_common) (maxL := 7) (ret := some .int) (by decide) rfl (Nat.le_of_ble_eq_true rfl) ?_
  intro p e s m below meth c hx hb hr hml hts hown hlocks hP hK hN ls hl
  have hown : s.vm.findClass RX5 = some m.cls := hown
  have hl : lv_has ls 7 [(0, .ref om), (1, .int (nI i)), (2, .int k), (3, .int (nI j)), (4, .int d)] := hl
  refine lv_aload_n hx hb dX5_common_0 rfl (lv_at hl 0 rfl) ?_
  refine lv_iload_n hx hb dX5_common_1 rfl (lv_at hl 1 rfl) ?_
  refine lv_iload_n hx hb dX5_common_2 rfl (lv_at hl 2 rfl) ?_
  refine rd_callV (As := [.int (nI i), .int k]) (rest := []) ⟨hx, hb, hml, hown, hts⟩ (c_X5_right l D hmd hi k) (cwV 2 hts gX5_common_X5_right rfl rfl rfl (by decide +kernel) ⟨by decide, by decide⟩) hK hN hP hqm rfl rfl hl.1 rfl (Nat.le_of_ble_eq_true rfl) ⟨by decide, by decide⟩ dX5_common_3 ?_
  refine lv_aload_n hx hb dX5_common_6 rfl (lv_at hl 0 rfl) ?_
  refine lv_iload_n hx hb dX5_common_7 rfl (lv_at hl 3 rfl) ?_
  refine lv_iload hx hb dX5_common_8 (lv_at hl 4 rfl) ?_
  refine rd_callV (As := [.int (nI j), .int d]) (rest := [.int (gL P i k + P i 2 - 1)]) ⟨hx, hb, hml, hown, hts⟩ (c_X5_right l D hmd hj d) (cwV 2 hts gX5_common_X5_right rfl rfl rfl (by decide +kernel) ⟨by decide, by decide⟩) hK hN hP hqm rfl rfl hl.1 rfl (Nat.le_of_ble_eq_true rfl) ⟨by decide, by decide⟩ dX5_common_10 ?_
  refine rd_callS (As := [.int (gL P i k + P i 2 - 1), .int (gL P j d + P j 2 - 1)]) (rest := []) ⟨hx, hb, hml, hown, hts⟩ (c_X5_lesser l D (gL P i k + P i 2 - 1) (gL P j d + P j 2 - 1)) (va_cwS 2 hts gX5_common_X5_lesser rfl rfl rfl (by decide +kernel) ⟨by decide, by decide⟩) hK hN hP rfl hl.1 rfl (Nat.le_of_ble_eq_true rfl) ⟨by decide, by decide⟩ dX5_common_13 ?_
  refine lv_aload_n hx hb dX5_common_16 rfl (lv_at hl 0 rfl) ?_
  refine lv_iload_n hx hb dX5_common_17 rfl (lv_at hl 1 rfl) ?_
  refine lv_iload_n hx hb dX5_common_18 rfl (lv_at hl 2 rfl) ?_
  refine rd_callV (As := [.int (nI i), .int k]) (rest := [.int (iMin (gL P i k + P i 2 - 1) (gL P j d + P j 2 - 1))]) ⟨hx, hb, hml, hown, hts⟩ (c_X5_left l D hmd hi k) (cwV 2 hts gX5_common_X5_left rfl rfl rfl (by decide +kernel) ⟨by decide, by decide⟩) hK hN hP hqm rfl rfl hl.1 rfl (Nat.le_of_ble_eq_true rfl) ⟨by decide, by decide⟩ dX5_common_19 ?_
  refine lv_aload_n hx hb dX5_common_22 rfl (lv_at hl 0 rfl) ?_
  refine lv_iload_n hx hb dX5_common_23 rfl (lv_at hl 3 rfl) ?_
  refine lv_iload hx hb dX5_common_24 (lv_at hl 4 rfl) ?_
  refine rd_callV (As := [.int (nI j), .int d]) (rest := [.int (gL P i k), .int (iMin (gL P i k + P i 2 - 1) (gL P j d + P j 2 - 1))]) ⟨hx, hb, hml, hown, hts⟩ (c_X5_left l D hmd hj d) (cwV 2 hts gX5_common_X5_left rfl rfl rfl (by decide +kernel) ⟨by decide, by decide⟩) hK hN hP hqm rfl rfl hl.1 rfl (Nat.le_of_ble_eq_true rfl) ⟨by decide, by decide⟩ dX5_common_26 ?_
  refine rd_callS (As := [.int (gL P i k), .int (gL P j d)]) (rest := [.int (iMin (gL P i k + P i 2 - 1) (gL P j d + P j 2 - 1))]) ⟨hx, hb, hml, hown, hts⟩ (c_X5_greater l D (gL P i k) (gL P j d)) (va_cwS 2 hts gX5_common_X5_greater rfl rfl rfl (by decide +kernel) ⟨by decide, by decide⟩) hK hN hP rfl hl.1 rfl (Nat.le_of_ble_eq_true rfl) ⟨by decide, by decide⟩ dX5_common_29 ?_
  refine lv_isub hx hb dX5_common_32 ?_
  refine lv_iconst (v := 1) hx hb dX5_common_33 (by decide) ?_
  refine lv_iadd hx hb dX5_common_34 ?_
  refine lv_istore (lv' := [(5, .int (((iMin (gL P i k + P i 2 - 1) (gL P j d + P j 2 - 1)) - (iMax (gL P i k) (gL P j d))) + 1)), (0, .ref om), (1, .int (nI i)), (2, .int k), (3, .int (nI j)), (4, .int d)]) hx hb dX5_common_35 hl (by decide) rfl (fun ls hl => ?_)
  refine lv_aload_n hx hb dX5_common_37 rfl (lv_at hl 1 rfl) ?_
  refine lv_iload_n hx hb dX5_common_38 rfl (lv_at hl 2 rfl) ?_
  refine lv_iload_n hx hb dX5_common_39 rfl (lv_at hl 3 rfl) ?_
  refine rd_callV (As := [.int (nI i), .int k]) (rest := []) ⟨hx, hb, hml, hown, hts⟩ (c_X5_high l D hmd hi hk) (cwV 2 hts gX5_common_X5_high rfl rfl rfl (by decide +kernel) ⟨by decide, by decide⟩) hK hN hP hqm rfl rfl hl.1 rfl (Nat.le_of_ble_eq_true rfl) ⟨by decide, by decide⟩ dX5_common_40 ?_
  refine lv_aload_n hx hb dX5_common_43 rfl (lv_at hl 1 rfl) ?_
  refine lv_iload_n hx hb dX5_common_44 rfl (lv_at hl 4 rfl) ?_
  refine lv_iload hx hb dX5_common_45 (lv_at hl 5 rfl) ?_
  refine rd_callV (As := [.int (nI j), .int d]) (rest := [.int (gT P i k + P i 3 - 1)]) ⟨hx, hb, hml, hown, hts⟩ (c_X5_high l D hmd hj hd) (cwV 2 hts gX5_common_X5_high rfl rfl rfl (by decide +kernel) ⟨by decide, by decide⟩) hK hN hP hqm rfl rfl hl.1 rfl (Nat.le_of_ble_eq_true rfl) ⟨by decide, by decide⟩ dX5_common_47 ?_
  refine rd_callS (As := [.int (gT P i k + P i 3 - 1), .int (gT P j d + P j 3 - 1)]) (rest := []) ⟨hx, hb, hml, hown, hts⟩ (c_X5_lesser l D (gT P i k + P i 3 - 1) (gT P j d + P j 3 - 1)) (va_cwS 2 hts gX5_common_X5_lesser rfl rfl rfl (by decide +kernel) ⟨by decide, by decide⟩) hK hN hP rfl hl.1 rfl (Nat.le_of_ble_eq_true rfl) ⟨by decide, by decide⟩ dX5_common_50 ?_
  refine lv_aload_n hx hb dX5_common_53 rfl (lv_at hl 1 rfl) ?_
  refine lv_iload_n hx hb dX5_common_54 rfl (lv_at hl 2 rfl) ?_
  refine lv_iload_n hx hb dX5_common_55 rfl (lv_at hl 3 rfl) ?_
  refine rd_callV (As := [.int (nI i), .int k]) (rest := [.int (iMin (gT P i k + P i 3 - 1) (gT P j d + P j 3 - 1))]) ⟨hx, hb, hml, hown, hts⟩ (c_X5_low l D hmd hi hk) (cwV 2 hts gX5_common_X5_low rfl rfl rfl (by decide +kernel) ⟨by decide, by decide⟩) hK hN hP hqm rfl rfl hl.1 rfl (Nat.le_of_ble_eq_true rfl) ⟨by decide, by decide⟩ dX5_common_56 ?_
  refine lv_aload_n hx hb dX5_common_59 rfl (lv_at hl 1 rfl) ?_
  refine lv_iload_n hx hb dX5_common_60 rfl (lv_at hl 4 rfl) ?_
  refine lv_iload hx hb dX5_common_61 (lv_at hl 5 rfl) ?_
  refine rd_callV (As := [.int (nI j), .int d]) (rest := [.int (gT P i k), .int (iMin (gT P i k + P i 3 - 1) (gT P j d + P j 3 - 1))]) ⟨hx, hb, hml, hown, hts⟩ (c_X5_low l D hmd hj hd) (cwV 2 hts gX5_common_X5_low rfl rfl rfl (by decide +kernel) ⟨by decide, by decide⟩) hK hN hP hqm rfl rfl hl.1 rfl (Nat.le_of_ble_eq_true rfl) ⟨by decide, by decide⟩ dX5_common_63 ?_
  refine rd_callS (As := [.int (gT P i k), .int (gT P j d)]) (rest := [.int (iMin (gT P i k + P i 3 - 1) (gT P j d + P j 3 - 1))]) ⟨hx, hb, hml, hown, hts⟩ (c_X5_greater l D (gT P i k) (gT P j d)) (va_cwS 2 hts gX5_common_X5_greater rfl rfl rfl (by decide +kernel) ⟨by decide, by decide⟩) hK hN hP rfl hl.1 rfl (Nat.le_of_ble_eq_true rfl) ⟨by decide, by decide⟩ dX5_common_66 ?_
  refine lv_isub hx hb dX5_common_69 ?_
  refine lv_iconst (v := 1) hx hb dX5_common_70 (by decide) ?_
  refine lv_iadd hx hb dX5_common_71 ?_
  refine lv_istore (lv' := [(6, .int (((iMin (gT P i k + P i 3 - 1) (gT P j d + P j 3 - 1)) - (iMax (gT P i k) (gT P j d))) + 1)), (5, .int (((iMin (gL P i k + P i 2 - 1) (gL P j d + P j 2 - 1)) - (iMax (gL P i k) (gL P j d))) + 1)), (0, .ref om), (1, .int (nI i)), (2, .int k), (3, .int (nI j)), (4, .int d)]) hx hb dX5_common_72 hl (by decide) rfl (fun ls hl => ?_)
  refine lv_iload hx hb dX5_common_74 (lv_at hl 1 rfl) ?_
  refine lv_if_le (tgt := 92) hx hb dX5_common_76 (by decide) (fun c_76 => ?_) (fun c_76 => ?_)
  · have c_76n := Int32.not_lt.mpr c_76
    refine lv_iconst (v := 0) hx hb dX5_common_92 (by decide) ?_
    exact rd_iret hx hb hr hlocks dX5_common_93 (by rw [← mSh_eq hbk hi k hj d]; simp [mSh, mAc, bI, c_76, c_76n])
  · have c_76n := Int32.not_le.mp c_76
    refine lv_iload hx hb dX5_common_79 (lv_at hl 0 rfl) ?_
    refine lv_if_le (tgt := 92) hx hb dX5_common_81 (by decide) (fun c_81 => ?_) (fun c_81 => ?_)
    · have c_81n := Int32.not_lt.mpr c_81
      refine lv_iconst (v := 0) hx hb dX5_common_92 (by decide) ?_
      exact rd_iret hx hb hr hlocks dX5_common_93 (by rw [← mSh_eq hbk hi k hj d]; simp [mSh, mAc, bI, c_76, c_76n, c_81, c_81n])
    · have c_81n := Int32.not_le.mp c_81
      refine lv_iload hx hb dX5_common_84 (lv_at hl 1 rfl) ?_
      refine lv_iload hx hb dX5_common_86 (lv_at hl 0 rfl) ?_
      refine lv_imul hx hb dX5_common_88 ?_
      refine lv_goto (tgt := 93) hx hb dX5_common_89 (by decide) ?_
      exact rd_iret hx hb hr hlocks dX5_common_93 (by rw [← mSh_eq hbk hi k hj d]; simp [mSh, mAc, bI, c_76, c_76n, c_81, c_81n])
set_option maxHeartbeats 4000000 in
set_option maxRecDepth 100000 in
theorem c_X5_canStand (l : Launch) (D : va_G) {w : va_W} {tys : List (ClassId × FieldType)} {om n : Nat} {P : Nat → Nat → Int32} (hmd : md_in w tys om n P) {i : Nat} (hi : i < n) {k : Int32} (hk : ok4 k) : rd_M l yX5_canStand wsX5_canStand ({ frames := 5, cells := 0, slots := 0, locals := 114 } : Room) D w tys [.ref om, .int (nI i), .int k] (bI (gOp n P i k && !gCl n P i k)) := by
  obtain ⟨qm, qs, t0, os, cI, S, fs, hqm, hfs, hqs, ht0, hn8, hS0, hS, hbk⟩ := id hmd
  refine rd_of (cc := cX5_canStand) (maxL := 5) (ret := some .boolean) (by decide) rfl (Nat.le_of_ble_eq_true rfl) ?_
  intro p e s m below meth c hx hb hr hml hts hown hlocks hP hK hN ls hl
  have hown : s.vm.findClass RX5 = some m.cls := hown
  have hl : lv_has ls 5 [(0, .ref om), (1, .int (nI i)), (2, .int k)] := hl
  have hw7 := hts (.fieldLink RX5 7 "CornerLabelsModel" "s" "[I") (by decide +kernel)
  have hinX5 : ∀ w ∈ u_ws RX5 TX5 16, w ∈ wsX5_canStand := by decide +kernel
  refine lv_aload_n hx hb dX5_canStand_0 rfl (lv_at hl 0 rfl) ?_
  refine lv_iload_n hx hb dX5_canStand_1 rfl (lv_at hl 1 rfl) ?_
  refine lv_iload_n hx hb dX5_canStand_2 rfl (lv_at hl 2 rfl) ?_
  refine rd_callV (As := [.int (nI i), .int k]) (rest := []) ⟨hx, hb, hml, hown, hts⟩ (c_X5_isOpen l D hmd hi hk) (cwV 2 hts gX5_canStand_X5_isOpen rfl rfl rfl (by decide +kernel) ⟨by decide, by decide⟩) hK hN hP hqm rfl rfl hl.1 rfl (Nat.le_of_ble_eq_true rfl) ⟨by decide, by decide⟩ dX5_canStand_3 ?_
  refine lv_istore_n (lv' := [(3, .int (bI (gOp n P i k))), (0, .ref om), (1, .int (nI i)), (2, .int k)]) hx hb dX5_canStand_6 rfl hl (by decide) rfl (fun ls hl => ?_)
  refine lv_iconst (v := 0) hx hb dX5_canStand_7 (by decide) ?_
  refine lv_istore (lv' := [(4, .int 0), (3, .int (bI (gOp n P i k))), (0, .ref om), (1, .int (nI i)), (2, .int k)]) hx hb dX5_canStand_8 hl (by decide) rfl (fun ls hl => ?_)
  suffices loop10 : ∀ (k10 j : Nat) (b : Bool) (ls : Array Slot), j ≤ n → n + 1 ≤ j + k10 → ((gOp n P i k && !gCl n P i k) = (b && !gE n (gClB P i k) j)) → lv_has ls 5 [(0, .ref om), (1, .int (nI i)), (2, .int k), (3, .int (bI b)), (4, .int (nI j))] → rd_W p l e wsX5_canStand ({ frames := 5, cells := 0, slots := 0, locals := 114 } : Room) s m [.ref om, .int (nI i), .int k] below meth c (bI (gOp n P i k && !gCl n P i k)) (F0 m 10 ls []) from
    loop10 (n + 1) 0 (gOp n P i k) ls (by omega) (by omega) (by rfl) (lv_sub hl [2, 3, 4, 1, 0] rfl)
  intro k10
  induction k10 with
  | zero => intro j b ls h1 h2; exact absurd h2 (by omega)
  | succ k10 ih10 =>
    intro j b ls hle10 hlt10 inv10 hl
    refine lv_iload hx hb dX5_canStand_10 (lv_at hl 4 rfl) ?_
    refine lv_aload_n hx hb dX5_canStand_12 rfl (lv_at hl 0 rfl) ?_
    refine va_get (D := D) (ci := 5) (v := .ref os) (C := RX5) (T := TX5) (N := 16) hx hb hts hinX5 hown hK hP qm hqm rfl 1 (by decide) hw7 (fun _ h9 => h9) hfs dX5_canStand_13 ?_
    refine lv_iconst (v := 0) hx hb dX5_canStand_16 (by decide) ?_
    refine rd_ald (q0 := qs) (t0 := t0) (j := 0) (v := nI n) hx hb hK hP hqs ht0 (rfl) (by omega) (by decide) (hS0) dX5_canStand_17 ?_
    refine rd_icmp_ge_n (a := j) (b := n) (tgt := 70) (by omega) (by omega) hx hb dX5_canStand_18 (by decide) (fun c_18 => ?_) (fun c_18 => ?_)
    · have c_18n := Nat.not_lt.mpr c_18
      refine lv_iload_n hx hb dX5_canStand_70 rfl (lv_at hl 3 rfl) ?_
      exact rd_zret hx hb hr hlocks dX5_canStand_71 (by rw [inv10, gE_end c_18]; simp)
    · have c_18n := Nat.not_le.mpr c_18
      refine lv_iload_n hx hb dX5_canStand_21 rfl (lv_at hl 3 rfl) ?_
      refine rd_ifeq_b (tgt := 62) hx hb dX5_canStand_22 (by decide) (fun c_22 => ?_) (fun c_22 => ?_)
      · refine lv_iconst (v := 0) hx hb dX5_canStand_62 (by decide) ?_
        refine lv_istore_n (lv' := [(3, .int 0), (0, .ref om), (1, .int (nI i)), (2, .int k), (4, .int (nI j))]) hx hb dX5_canStand_63 rfl hl (by decide) rfl (fun ls hl => ?_)
        refine lv_iinc (v := nI (j + 1)) (lv' := [(4, .int (nI (j + 1))), (3, .int 0), (0, .ref om), (1, .int (nI i)), (2, .int k)]) hx hb dX5_canStand_64 hl (k := 4) rfl (nI_add j 1) (by decide) rfl (fun ls hl => ?_)
        refine lv_goto (tgt := 10) hx hb dX5_canStand_67 (by decide) ?_
        exact ih10 (j + 1) false ls (by omega) (by omega) (by rw [inv10, gE_step c_18]; simp [gClB, gSt, bI, c_18n, c_22]) (lv_sub hl [2, 3, 4, 1, 0] rfl)
      · refine lv_iload hx hb dX5_canStand_25 (lv_at hl 4 rfl) ?_
        refine lv_iload_n hx hb dX5_canStand_27 rfl (lv_at hl 1 rfl) ?_
        refine rd_icmp_eq_n (a := j) (b := i) (tgt := 58) (by omega) (by omega) hx hb dX5_canStand_28 (by decide) (fun c_28 => ?_) (fun c_28 => ?_)
        · refine lv_iconst (v := 1) hx hb dX5_canStand_58 (by decide) ?_
          refine lv_goto (tgt := 63) hx hb dX5_canStand_59 (by decide) ?_
          refine lv_istore_n (lv' := [(3, .int 1), (0, .ref om), (1, .int (nI i)), (2, .int k), (4, .int (nI j))]) hx hb dX5_canStand_63 rfl hl (by decide) rfl (fun ls hl => ?_)
          refine lv_iinc (v := nI (j + 1)) (lv' := [(4, .int (nI (j + 1))), (3, .int 1), (0, .ref om), (1, .int (nI i)), (2, .int k)]) hx hb dX5_canStand_64 hl (k := 4) rfl (nI_add j 1) (by decide) rfl (fun ls hl => ?_)
          refine lv_goto (tgt := 10) hx hb dX5_canStand_67 (by decide) ?_
          exact ih10 (j + 1) true ls (by omega) (by omega) (by rw [inv10, gE_step c_18]; simp [gClB, gSt, bI, c_18n, c_22, c_28]) (lv_sub hl [2, 3, 4, 1, 0] rfl)
        · refine lv_aload_n hx hb dX5_canStand_31 rfl (lv_at hl 0 rfl) ?_
          refine lv_iload hx hb dX5_canStand_32 (lv_at hl 4 rfl) ?_
          refine rd_callV (As := [.int (nI j)]) (rest := []) ⟨hx, hb, hml, hown, hts⟩ (c_X5_cornerOf l D hmd c_18) (cwV 1 hts gX5_canStand_X5_cornerOf rfl rfl rfl (by decide +kernel) ⟨by decide, by decide⟩) hK hN hP hqm rfl rfl hl.1 rfl (Nat.le_of_ble_eq_true rfl) ⟨by decide, by decide⟩ dX5_canStand_34 ?_
          refine lv_iconst (v := (-1)) hx hb dX5_canStand_37 (by decide) ?_
          refine lv_icmp_eq (tgt := 58) hx hb dX5_canStand_38 (by decide) (fun c_38 => ?_) (fun c_38 => ?_)
          · refine lv_iconst (v := 1) hx hb dX5_canStand_58 (by decide) ?_
            refine lv_goto (tgt := 63) hx hb dX5_canStand_59 (by decide) ?_
            refine lv_istore_n (lv' := [(3, .int 1), (0, .ref om), (1, .int (nI i)), (2, .int k), (4, .int (nI j))]) hx hb dX5_canStand_63 rfl hl (by decide) rfl (fun ls hl => ?_)
            refine lv_iinc (v := nI (j + 1)) (lv' := [(4, .int (nI (j + 1))), (3, .int 1), (0, .ref om), (1, .int (nI i)), (2, .int k)]) hx hb dX5_canStand_64 hl (k := 4) rfl (nI_add j 1) (by decide) rfl (fun ls hl => ?_)
            refine lv_goto (tgt := 10) hx hb dX5_canStand_67 (by decide) ?_
            exact ih10 (j + 1) true ls (by omega) (by omega) (by rw [inv10, gE_step c_18]; simp [gClB, gSt, bI, c_18n, c_22, c_28, c_38]) (lv_sub hl [2, 3, 4, 1, 0] rfl)
          · refine lv_aload_n hx hb dX5_canStand_41 rfl (lv_at hl 0 rfl) ?_
            refine lv_iload_n hx hb dX5_canStand_42 rfl (lv_at hl 1 rfl) ?_
            refine lv_iload_n hx hb dX5_canStand_43 rfl (lv_at hl 2 rfl) ?_
            refine lv_iload hx hb dX5_canStand_44 (lv_at hl 4 rfl) ?_
            refine lv_aload_n hx hb dX5_canStand_46 rfl (lv_at hl 0 rfl) ?_
            refine lv_iload hx hb dX5_canStand_47 (lv_at hl 4 rfl) ?_
            refine rd_callV (As := [.int (nI j)]) (rest := [.int (nI j), .int k, .int (nI i), .ref om]) ⟨hx, hb, hml, hown, hts⟩ (c_X5_cornerOf l D hmd c_18) (cwV 1 hts gX5_canStand_X5_cornerOf rfl rfl rfl (by decide +kernel) ⟨by decide, by decide⟩) hK hN hP hqm rfl rfl hl.1 rfl (Nat.le_of_ble_eq_true rfl) ⟨by decide, by decide⟩ dX5_canStand_49 ?_
            refine rd_callV (As := [.int (nI i), .int k, .int (nI j), .int (P j 5)]) (rest := []) ⟨hx, hb, hml, hown, hts⟩ (c_X5_common l D hmd hi hk c_18 (bd_ok4 hbk c_18 c_38)) (cwV 4 hts gX5_canStand_X5_common rfl rfl rfl (by decide +kernel) ⟨by decide, by decide⟩) hK hN hP hqm rfl rfl hl.1 rfl (Nat.le_of_ble_eq_true rfl) ⟨by decide, by decide⟩ dX5_canStand_52 ?_
            refine lv_if_ne (tgt := 62) hx hb dX5_canStand_55 (by decide) (fun c_55 => ?_) (fun c_55 => ?_)
            · refine lv_iconst (v := 0) hx hb dX5_canStand_62 (by decide) ?_
              refine lv_istore_n (lv' := [(3, .int 0), (0, .ref om), (1, .int (nI i)), (2, .int k), (4, .int (nI j))]) hx hb dX5_canStand_63 rfl hl (by decide) rfl (fun ls hl => ?_)
              refine lv_iinc (v := nI (j + 1)) (lv' := [(4, .int (nI (j + 1))), (3, .int 0), (0, .ref om), (1, .int (nI i)), (2, .int k)]) hx hb dX5_canStand_64 hl (k := 4) rfl (nI_add j 1) (by decide) rfl (fun ls hl => ?_)
              refine lv_goto (tgt := 10) hx hb dX5_canStand_67 (by decide) ?_
              exact ih10 (j + 1) false ls (by omega) (by omega) (by have z_55 := (gSh_posn hbk hi k c_18 (P j 5)).mp c_55; rw [inv10, gE_step c_18]; simp [gClB, gSt, bI, c_18n, c_22, c_28, c_38, z_55]) (lv_sub hl [2, 3, 4, 1, 0] rfl)
            · refine lv_iconst (v := 1) hx hb dX5_canStand_58 (by decide) ?_
              refine lv_goto (tgt := 63) hx hb dX5_canStand_59 (by decide) ?_
              refine lv_istore_n (lv' := [(3, .int 1), (0, .ref om), (1, .int (nI i)), (2, .int k), (4, .int (nI j))]) hx hb dX5_canStand_63 rfl hl (by decide) rfl (fun ls hl => ?_)
              refine lv_iinc (v := nI (j + 1)) (lv' := [(4, .int (nI (j + 1))), (3, .int 1), (0, .ref om), (1, .int (nI i)), (2, .int k)]) hx hb dX5_canStand_64 hl (k := 4) rfl (nI_add j 1) (by decide) rfl (fun ls hl => ?_)
              refine lv_goto (tgt := 10) hx hb dX5_canStand_67 (by decide) ?_
              exact ih10 (j + 1) true ls (by omega) (by omega) (by have z_55 := (gSh_pos hbk hi k c_18 (P j 5)).mp c_55; rw [inv10, gE_step c_18]; simp [gClB, gSt, bI, c_18n, c_22, c_28, c_38, z_55]) (lv_sub hl [2, 3, 4, 1, 0] rfl)
set_option maxHeartbeats 4000000 in
set_option maxRecDepth 100000 in
theorem c_X5_freeOf (l : Launch) (D : va_G) {w : va_W} {tys : List (ClassId × FieldType)} {om n : Nat} {P : Nat → Nat → Int32} (hmd : md_in w tys om n P) {i : Nat} (hi : i < n) : rd_M l yX5_freeOf wsX5_freeOf ({ frames := 6, cells := 0, slots := 0, locals := 138 } : Room) D w tys [.ref om, .int (nI i)] (gFr n P i) := by
  obtain ⟨qm, qs, t0, os, cI, S, fs, hqm, hfs, hqs, ht0, hn8, hS0, hS, hbk⟩ := id hmd
  refine rd_of (cc := cX5_freeOf) (maxL := 4) (ret := some .int) (by decide) rfl (Nat.le_of_ble_eq_true rfl) ?_
  intro p e s m below meth c hx hb hr hml hts hown hlocks hP hK hN ls hl
  have hown : s.vm.findClass RX5 = some m.cls := hown
  have hl : lv_has ls 4 [(0, .ref om), (1, .int (nI i))] := hl
  refine lv_iconst (v := 0) hx hb dX5_freeOf_0 (by decide) ?_
  refine lv_istore_n (lv' := [(2, .int 0), (0, .ref om), (1, .int (nI i))]) hx hb dX5_freeOf_1 rfl hl (by decide) rfl (fun ls hl => ?_)
  refine lv_iconst (v := 0) hx hb dX5_freeOf_2 (by decide) ?_
  refine lv_istore_n (lv' := [(3, .int 0), (2, .int 0), (0, .ref om), (1, .int (nI i))]) hx hb dX5_freeOf_3 rfl hl (by decide) rfl (fun ls hl => ?_)
  suffices loop4 : ∀ (k4 k : Nat) (a : Int32) (ls : Array Slot), k ≤ 4 → 4 + 1 ≤ k + k4 → (gFr n P i = gF 4 (mFrF n P i) k a) → lv_has ls 4 [(0, .ref om), (1, .int (nI i)), (2, .int a), (3, .int (nI k))] → rd_W p l e wsX5_freeOf ({ frames := 6, cells := 0, slots := 0, locals := 138 } : Room) s m [.ref om, .int (nI i)] below meth c (gFr n P i) (F0 m 4 ls []) from
    loop4 (4 + 1) 0 0 ls (by omega) (by omega) (by exact (mFr_eq n P i).symm) (lv_sub hl [2, 3, 1, 0] rfl)
  intro k4
  induction k4 with
  | zero => intro k a ls h1 h2; exact absurd h2 (by omega)
  | succ k4 ih4 =>
    intro k a ls hle4 hlt4 inv4 hl
    refine lv_iload_n hx hb dX5_freeOf_4 rfl (lv_at hl 3 rfl) ?_
    refine lv_iconst (v := 4) hx hb dX5_freeOf_5 (by decide) ?_
    refine rd_icmp_ge_n (a := k) (b := 4) (tgt := 34) (by omega) (by omega) hx hb dX5_freeOf_6 (by decide) (fun c_6 => ?_) (fun c_6 => ?_)
    · have c_6n := Nat.not_lt.mpr c_6
      refine lv_iload_n hx hb dX5_freeOf_34 rfl (lv_at hl 2 rfl) ?_
      exact rd_iret hx hb hr hlocks dX5_freeOf_35 (by rw [inv4, gF_end c_6])
    · have c_6n := Nat.not_le.mpr c_6
      refine lv_iload_n hx hb dX5_freeOf_9 rfl (lv_at hl 2 rfl) ?_
      refine lv_aload_n hx hb dX5_freeOf_10 rfl (lv_at hl 0 rfl) ?_
      refine lv_iload_n hx hb dX5_freeOf_11 rfl (lv_at hl 1 rfl) ?_
      refine lv_iload_n hx hb dX5_freeOf_12 rfl (lv_at hl 3 rfl) ?_
      refine rd_callV (As := [.int (nI i), .int (nI k)]) (rest := [.int a]) ⟨hx, hb, hml, hown, hts⟩ (c_X5_canStand l D hmd hi (ok4_nI c_6)) (cwV 2 hts gX5_freeOf_X5_canStand rfl rfl rfl (by decide +kernel) ⟨by decide, by decide⟩) hK hN hP hqm rfl rfl hl.1 rfl (Nat.le_of_ble_eq_true rfl) ⟨by decide, by decide⟩ dX5_freeOf_13 ?_
      refine rd_ifeq_b (tgt := 25) hx hb dX5_freeOf_16 (by decide) (fun c_16 => ?_) (fun c_16 => ?_)
      · refine lv_iconst (v := 0) hx hb dX5_freeOf_25 (by decide) ?_
        refine lv_ior hx hb dX5_freeOf_26 ?_
        refine lv_istore_n (lv' := [(2, .int (a ||| 0)), (0, .ref om), (1, .int (nI i)), (3, .int (nI k))]) hx hb dX5_freeOf_27 rfl hl (by decide) rfl (fun ls hl => ?_)
        refine lv_iinc (v := nI (k + 1)) (lv' := [(3, .int (nI (k + 1))), (2, .int (a ||| 0)), (0, .ref om), (1, .int (nI i))]) hx hb dX5_freeOf_28 hl (k := 3) rfl (nI_add k 1) (by decide) rfl (fun ls hl => ?_)
        refine lv_goto (tgt := 4) hx hb dX5_freeOf_31 (by decide) ?_
        exact ih4 (k + 1) (a ||| 0) ls (by omega) (by omega) (by rw [inv4, gF_step c_6]; simp [mFrF, gBit, bI, c_6n, c_16]) (lv_sub hl [2, 3, 1, 0] rfl)
      · refine lv_iconst (v := 1) hx hb dX5_freeOf_19 (by decide) ?_
        refine lv_iload_n hx hb dX5_freeOf_20 rfl (lv_at hl 3 rfl) ?_
        refine lv_ishl hx hb dX5_freeOf_21 ?_
        refine lv_goto (tgt := 26) hx hb dX5_freeOf_22 (by decide) ?_
        refine lv_ior hx hb dX5_freeOf_26 ?_
        refine lv_istore_n (lv' := [(2, .int (a ||| (1 <<< (nI k &&& 31)))), (0, .ref om), (1, .int (nI i)), (3, .int (nI k))]) hx hb dX5_freeOf_27 rfl hl (by decide) rfl (fun ls hl => ?_)
        refine lv_iinc (v := nI (k + 1)) (lv' := [(3, .int (nI (k + 1))), (2, .int (a ||| (1 <<< (nI k &&& 31)))), (0, .ref om), (1, .int (nI i))]) hx hb dX5_freeOf_28 hl (k := 3) rfl (nI_add k 1) (by decide) rfl (fun ls hl => ?_)
        refine lv_goto (tgt := 4) hx hb dX5_freeOf_31 (by decide) ?_
        exact ih4 (k + 1) (a ||| (1 <<< (nI k &&& 31))) ls (by omega) (by omega) (by rw [inv4, gF_step c_6]; simp [mFrF, gBit, bI, c_6n, c_16]) (lv_sub hl [2, 3, 1, 0] rfl)
set_option maxHeartbeats 4000000 in
set_option maxRecDepth 100000 in
theorem c_X5_pointAt (l : Launch) (D : va_G) {w : va_W} {tys : List (ClassId × FieldType)} {om n : Nat} {P : Nat → Nat → Int32} (hmd : md_in w tys om n P) (x y : Int32) : rd_M l yX5_pointAt wsX5_pointAt ({ frames := 1, cells := 0, slots := 0, locals := 22 } : Room) D w tys [.ref om, .int x, .int y] (gPt n P x y) := by
  obtain ⟨qm, qs, t0, os, cI, S, fs, hqm, hfs, hqs, ht0, hn8, hS0, hS, hbk⟩ := id hmd
  refine rd_of (cc := cX5_pointAt) (maxL := 4) (ret := some .int) (by decide) rfl (Nat.le_of_ble_eq_true rfl) ?_
  intro p e s m below meth c hx hb hr hml hts hown hlocks hP hK hN ls hl
  have hown : s.vm.findClass RX5 = some m.cls := hown
  have hl : lv_has ls 4 [(0, .ref om), (1, .int x), (2, .int y)] := hl
  have hw7 := hts (.fieldLink RX5 7 "CornerLabelsModel" "s" "[I") (by decide +kernel)
  have hinX5 : ∀ w ∈ u_ws RX5 TX5 16, w ∈ wsX5_pointAt := by decide +kernel
  refine lv_iconst (v := 0) hx hb dX5_pointAt_0 (by decide) ?_
  refine lv_istore_n (lv' := [(3, .int 0), (0, .ref om), (1, .int x), (2, .int y)]) hx hb dX5_pointAt_1 rfl hl (by decide) rfl (fun ls hl => ?_)
  suffices loop2 : ∀ (k2 i : Nat) (ls : Array Slot), i ≤ n → n + 1 ≤ i + k2 → (gPt n P x y = gS n (fun i => decide (P i 0 = x ∧ P i 1 = y)) nI (-1) i) → lv_has ls 4 [(0, .ref om), (1, .int x), (2, .int y), (3, .int (nI i))] → rd_W p l e wsX5_pointAt ({ frames := 1, cells := 0, slots := 0, locals := 22 } : Room) s m [.ref om, .int x, .int y] below meth c (gPt n P x y) (F0 m 2 ls []) from
    loop2 (n + 1) 0 ls (by omega) (by omega) (by rfl) (lv_sub hl [1, 2, 3, 0] rfl)
  intro k2
  induction k2 with
  | zero => intro i ls h1 h2; exact absurd h2 (by omega)
  | succ k2 ih2 =>
    intro i ls hle2 hlt2 inv2 hl
    refine lv_iload_n hx hb dX5_pointAt_2 rfl (lv_at hl 3 rfl) ?_
    refine lv_aload_n hx hb dX5_pointAt_3 rfl (lv_at hl 0 rfl) ?_
    refine va_get (D := D) (ci := 5) (v := .ref os) (C := RX5) (T := TX5) (N := 16) hx hb hts hinX5 hown hK hP qm hqm rfl 1 (by decide) hw7 (fun _ h9 => h9) hfs dX5_pointAt_4 ?_
    refine lv_iconst (v := 0) hx hb dX5_pointAt_7 (by decide) ?_
    refine rd_ald (q0 := qs) (t0 := t0) (j := 0) (v := nI n) hx hb hK hP hqs ht0 (rfl) (by omega) (by decide) (hS0) dX5_pointAt_8 ?_
    refine rd_icmp_ge_n (a := i) (b := n) (tgt := 40) (by omega) (by omega) hx hb dX5_pointAt_9 (by decide) (fun c_9 => ?_) (fun c_9 => ?_)
    · have c_9n := Nat.not_lt.mpr c_9
      refine lv_iconst (v := (-1)) hx hb dX5_pointAt_40 (by decide) ?_
      exact rd_iret hx hb hr hlocks dX5_pointAt_41 (by rw [inv2, gS_end c_9])
    · have c_9n := Nat.not_le.mpr c_9
      refine lv_aload_n hx hb dX5_pointAt_12 rfl (lv_at hl 0 rfl) ?_
      refine lv_iload_n hx hb dX5_pointAt_13 rfl (lv_at hl 3 rfl) ?_
      refine lv_iconst (v := 0) hx hb dX5_pointAt_14 (by decide) ?_
      refine rd_callV (As := [.int (nI i), .int 0]) (rest := []) ⟨hx, hb, hml, hown, hts⟩ (c_X5_of l D hmd c_9 (k := 0) (by decide)) (cwV 2 hts gX5_pointAt_X5_of rfl rfl rfl (by decide +kernel) ⟨by decide, by decide⟩) hK hN hP hqm rfl rfl hl.1 rfl (Nat.le_of_ble_eq_true rfl) ⟨by decide, by decide⟩ dX5_pointAt_15 ?_
      refine lv_asi (y := P i 0) (rfl) ?_
      refine lv_iload_n hx hb dX5_pointAt_18 rfl (lv_at hl 1 rfl) ?_
      refine lv_icmp_ne (tgt := 34) hx hb dX5_pointAt_19 (by decide) (fun c_19 => ?_) (fun c_19 => ?_)
      · refine lv_iinc (v := nI (i + 1)) (lv' := [(3, .int (nI (i + 1))), (0, .ref om), (1, .int x), (2, .int y)]) hx hb dX5_pointAt_34 hl (k := 3) rfl (nI_add i 1) (by decide) rfl (fun ls hl => ?_)
        refine lv_goto (tgt := 2) hx hb dX5_pointAt_37 (by decide) ?_
        exact ih2 (i + 1) ls (by omega) (by omega) (by rw [inv2, gS_step c_9]; simp [bI, c_9n, c_19]) (lv_sub hl [1, 2, 3, 0] rfl)
      · refine lv_aload_n hx hb dX5_pointAt_22 rfl (lv_at hl 0 rfl) ?_
        refine lv_iload_n hx hb dX5_pointAt_23 rfl (lv_at hl 3 rfl) ?_
        refine lv_iconst (v := 1) hx hb dX5_pointAt_24 (by decide) ?_
        refine rd_callV (As := [.int (nI i), .int 1]) (rest := []) ⟨hx, hb, hml, hown, hts⟩ (c_X5_of l D hmd c_9 (k := 1) (by decide)) (cwV 2 hts gX5_pointAt_X5_of rfl rfl rfl (by decide +kernel) ⟨by decide, by decide⟩) hK hN hP hqm rfl rfl hl.1 rfl (Nat.le_of_ble_eq_true rfl) ⟨by decide, by decide⟩ dX5_pointAt_25 ?_
        refine lv_asi (y := P i 1) (rfl) ?_
        refine lv_iload_n hx hb dX5_pointAt_28 rfl (lv_at hl 2 rfl) ?_
        refine lv_icmp_ne (tgt := 34) hx hb dX5_pointAt_29 (by decide) (fun c_29 => ?_) (fun c_29 => ?_)
        · refine lv_iinc (v := nI (i + 1)) (lv' := [(3, .int (nI (i + 1))), (0, .ref om), (1, .int x), (2, .int y)]) hx hb dX5_pointAt_34 hl (k := 3) rfl (nI_add i 1) (by decide) rfl (fun ls hl => ?_)
          refine lv_goto (tgt := 2) hx hb dX5_pointAt_37 (by decide) ?_
          exact ih2 (i + 1) ls (by omega) (by omega) (by rw [inv2, gS_step c_9]; simp [bI, c_9n, c_19, c_29]) (lv_sub hl [1, 2, 3, 0] rfl)
        · refine lv_iload_n hx hb dX5_pointAt_32 rfl (lv_at hl 3 rfl) ?_
          exact rd_iret hx hb hr hlocks dX5_pointAt_33 (by rw [inv2, gS_step c_9]; simp [bI, c_9n, c_19, c_29])
set_option maxHeartbeats 4000000 in
set_option maxRecDepth 100000 in
theorem c_X5_refusesAdd (l : Launch) (D : va_G) {w : va_W} {tys : List (ClassId × FieldType)} {om n : Nat} {P : Nat → Nat → Int32} (hmd : md_in w tys om n P) (x y wd hg wt : Int32) : rd_M l yX5_refusesAdd wsX5_refusesAdd ({ frames := 2, cells := 0, slots := 0, locals := 45 } : Room) D w tys [.ref om, .int x, .int y, .int wd, .int hg, .int wt] (mRef n P x y wd hg wt) := by
  obtain ⟨qm, qs, t0, os, cI, S, fs, hqm, hfs, hqs, ht0, hn8, hS0, hS, hbk⟩ := id hmd
  refine rd_of (cc := cX5_refusesAdd) (maxL := 7) (ret := some .int) (by decide) rfl (Nat.le_of_ble_eq_true rfl) ?_
  intro p e s m below meth c hx hb hr hml hts hown hlocks hP hK hN ls hl
  have hown : s.vm.findClass RX5 = some m.cls := hown
  have hl : lv_has ls 7 [(0, .ref om), (1, .int x), (2, .int y), (3, .int wd), (4, .int hg), (5, .int wt)] := hl
  have hw7 := hts (.fieldLink RX5 7 "CornerLabelsModel" "s" "[I") (by decide +kernel)
  have hinX5 : ∀ w ∈ u_ws RX5 TX5 16, w ∈ wsX5_refusesAdd := by decide +kernel
  refine lv_iload_n hx hb dX5_refusesAdd_0 rfl (lv_at hl 1 rfl) ?_
  refine lv_iconst (v := 0) hx hb dX5_refusesAdd_1 (by decide) ?_
  refine lv_bipush (v := 59) hx hb dX5_refusesAdd_2 (by decide) ?_
  refine rd_callS (As := [.int x, .int 0, .int 59]) (rest := []) ⟨hx, hb, hml, hown, hts⟩ (c_X5_in l D x 0 59) (va_cwS 3 hts gX5_refusesAdd_X5_in rfl rfl rfl (by decide +kernel) ⟨by decide, by decide⟩) hK hN hP rfl hl.1 rfl (Nat.le_of_ble_eq_true rfl) ⟨by decide, by decide⟩ dX5_refusesAdd_4 ?_
  refine rd_ifeq_b (tgt := 56) hx hb dX5_refusesAdd_7 (by decide) (fun c_7 => ?_) (fun c_7 => ?_)
  · refine lv_iconst (v := 0) hx hb dX5_refusesAdd_56 (by decide) ?_
    refine lv_istore (lv' := [(6, .int 0), (0, .ref om), (1, .int x), (2, .int y), (3, .int wd), (4, .int hg), (5, .int wt)]) hx hb dX5_refusesAdd_57 hl (by decide) rfl (fun ls hl => ?_)
    refine lv_iload hx hb dX5_refusesAdd_59 (lv_at hl 0 rfl) ?_
    refine lv_if_ne (tgt := 68) hx hb dX5_refusesAdd_61 (by decide) (fun h9 => absurd (by decide) h9) (fun _ => ?_)
    refine lv_iconst (v := 1) hx hb dX5_refusesAdd_64 (by decide) ?_
    refine lv_goto (tgt := 94) hx hb dX5_refusesAdd_65 (by decide) ?_
    exact rd_iret hx hb hr hlocks dX5_refusesAdd_94 (by simp [mRef, bI, c_7])
  · refine lv_iload_n hx hb dX5_refusesAdd_10 rfl (lv_at hl 2 rfl) ?_
    refine lv_iconst (v := 0) hx hb dX5_refusesAdd_11 (by decide) ?_
    refine lv_bipush (v := 39) hx hb dX5_refusesAdd_12 (by decide) ?_
    refine rd_callS (As := [.int y, .int 0, .int 39]) (rest := []) ⟨hx, hb, hml, hown, hts⟩ (c_X5_in l D y 0 39) (va_cwS 3 hts gX5_refusesAdd_X5_in rfl rfl rfl (by decide +kernel) ⟨by decide, by decide⟩) hK hN hP rfl hl.1 rfl (Nat.le_of_ble_eq_true rfl) ⟨by decide, by decide⟩ dX5_refusesAdd_14 ?_
    refine rd_ifeq_b (tgt := 56) hx hb dX5_refusesAdd_17 (by decide) (fun c_17 => ?_) (fun c_17 => ?_)
    · refine lv_iconst (v := 0) hx hb dX5_refusesAdd_56 (by decide) ?_
      refine lv_istore (lv' := [(6, .int 0), (0, .ref om), (1, .int x), (2, .int y), (3, .int wd), (4, .int hg), (5, .int wt)]) hx hb dX5_refusesAdd_57 hl (by decide) rfl (fun ls hl => ?_)
      refine lv_iload hx hb dX5_refusesAdd_59 (lv_at hl 0 rfl) ?_
      refine lv_if_ne (tgt := 68) hx hb dX5_refusesAdd_61 (by decide) (fun h9 => absurd (by decide) h9) (fun _ => ?_)
      refine lv_iconst (v := 1) hx hb dX5_refusesAdd_64 (by decide) ?_
      refine lv_goto (tgt := 94) hx hb dX5_refusesAdd_65 (by decide) ?_
      exact rd_iret hx hb hr hlocks dX5_refusesAdd_94 (by simp [mRef, bI, c_7, c_17])
    · refine lv_iload_n hx hb dX5_refusesAdd_20 rfl (lv_at hl 3 rfl) ?_
      refine lv_iconst (v := 1) hx hb dX5_refusesAdd_21 (by decide) ?_
      refine lv_bipush (v := 20) hx hb dX5_refusesAdd_22 (by decide) ?_
      refine rd_callS (As := [.int wd, .int 1, .int 20]) (rest := []) ⟨hx, hb, hml, hown, hts⟩ (c_X5_in l D wd 1 20) (va_cwS 3 hts gX5_refusesAdd_X5_in rfl rfl rfl (by decide +kernel) ⟨by decide, by decide⟩) hK hN hP rfl hl.1 rfl (Nat.le_of_ble_eq_true rfl) ⟨by decide, by decide⟩ dX5_refusesAdd_24 ?_
      refine rd_ifeq_b (tgt := 56) hx hb dX5_refusesAdd_27 (by decide) (fun c_27 => ?_) (fun c_27 => ?_)
      · refine lv_iconst (v := 0) hx hb dX5_refusesAdd_56 (by decide) ?_
        refine lv_istore (lv' := [(6, .int 0), (0, .ref om), (1, .int x), (2, .int y), (3, .int wd), (4, .int hg), (5, .int wt)]) hx hb dX5_refusesAdd_57 hl (by decide) rfl (fun ls hl => ?_)
        refine lv_iload hx hb dX5_refusesAdd_59 (lv_at hl 0 rfl) ?_
        refine lv_if_ne (tgt := 68) hx hb dX5_refusesAdd_61 (by decide) (fun h9 => absurd (by decide) h9) (fun _ => ?_)
        refine lv_iconst (v := 1) hx hb dX5_refusesAdd_64 (by decide) ?_
        refine lv_goto (tgt := 94) hx hb dX5_refusesAdd_65 (by decide) ?_
        exact rd_iret hx hb hr hlocks dX5_refusesAdd_94 (by simp [mRef, bI, c_7, c_17, c_27])
      · refine lv_iload hx hb dX5_refusesAdd_30 (lv_at hl 4 rfl) ?_
        refine lv_iconst (v := 1) hx hb dX5_refusesAdd_32 (by decide) ?_
        refine lv_bipush (v := 9) hx hb dX5_refusesAdd_33 (by decide) ?_
        refine rd_callS (As := [.int hg, .int 1, .int 9]) (rest := []) ⟨hx, hb, hml, hown, hts⟩ (c_X5_in l D hg 1 9) (va_cwS 3 hts gX5_refusesAdd_X5_in rfl rfl rfl (by decide +kernel) ⟨by decide, by decide⟩) hK hN hP rfl hl.1 rfl (Nat.le_of_ble_eq_true rfl) ⟨by decide, by decide⟩ dX5_refusesAdd_35 ?_
        refine rd_ifeq_b (tgt := 56) hx hb dX5_refusesAdd_38 (by decide) (fun c_38 => ?_) (fun c_38 => ?_)
        · refine lv_iconst (v := 0) hx hb dX5_refusesAdd_56 (by decide) ?_
          refine lv_istore (lv' := [(6, .int 0), (0, .ref om), (1, .int x), (2, .int y), (3, .int wd), (4, .int hg), (5, .int wt)]) hx hb dX5_refusesAdd_57 hl (by decide) rfl (fun ls hl => ?_)
          refine lv_iload hx hb dX5_refusesAdd_59 (lv_at hl 0 rfl) ?_
          refine lv_if_ne (tgt := 68) hx hb dX5_refusesAdd_61 (by decide) (fun h9 => absurd (by decide) h9) (fun _ => ?_)
          refine lv_iconst (v := 1) hx hb dX5_refusesAdd_64 (by decide) ?_
          refine lv_goto (tgt := 94) hx hb dX5_refusesAdd_65 (by decide) ?_
          exact rd_iret hx hb hr hlocks dX5_refusesAdd_94 (by simp [mRef, bI, c_7, c_17, c_27, c_38])
        · refine lv_iload hx hb dX5_refusesAdd_41 (lv_at hl 5 rfl) ?_
          refine lv_iconst (v := 1) hx hb dX5_refusesAdd_43 (by decide) ?_
          refine lv_bipush (v := 99) hx hb dX5_refusesAdd_44 (by decide) ?_
          refine rd_callS (As := [.int wt, .int 1, .int 99]) (rest := []) ⟨hx, hb, hml, hown, hts⟩ (c_X5_in l D wt 1 99) (va_cwS 3 hts gX5_refusesAdd_X5_in rfl rfl rfl (by decide +kernel) ⟨by decide, by decide⟩) hK hN hP rfl hl.1 rfl (Nat.le_of_ble_eq_true rfl) ⟨by decide, by decide⟩ dX5_refusesAdd_46 ?_
          refine rd_ifeq_b (tgt := 56) hx hb dX5_refusesAdd_49 (by decide) (fun c_49 => ?_) (fun c_49 => ?_)
          · refine lv_iconst (v := 0) hx hb dX5_refusesAdd_56 (by decide) ?_
            refine lv_istore (lv' := [(6, .int 0), (0, .ref om), (1, .int x), (2, .int y), (3, .int wd), (4, .int hg), (5, .int wt)]) hx hb dX5_refusesAdd_57 hl (by decide) rfl (fun ls hl => ?_)
            refine lv_iload hx hb dX5_refusesAdd_59 (lv_at hl 0 rfl) ?_
            refine lv_if_ne (tgt := 68) hx hb dX5_refusesAdd_61 (by decide) (fun h9 => absurd (by decide) h9) (fun _ => ?_)
            refine lv_iconst (v := 1) hx hb dX5_refusesAdd_64 (by decide) ?_
            refine lv_goto (tgt := 94) hx hb dX5_refusesAdd_65 (by decide) ?_
            exact rd_iret hx hb hr hlocks dX5_refusesAdd_94 (by simp [mRef, bI, c_7, c_17, c_27, c_38, c_49])
          · refine lv_iconst (v := 1) hx hb dX5_refusesAdd_52 (by decide) ?_
            refine lv_goto (tgt := 57) hx hb dX5_refusesAdd_53 (by decide) ?_
            refine lv_istore (lv' := [(6, .int 1), (0, .ref om), (1, .int x), (2, .int y), (3, .int wd), (4, .int hg), (5, .int wt)]) hx hb dX5_refusesAdd_57 hl (by decide) rfl (fun ls hl => ?_)
            refine lv_iload hx hb dX5_refusesAdd_59 (lv_at hl 0 rfl) ?_
            refine lv_if_ne (tgt := 68) hx hb dX5_refusesAdd_61 (by decide) (fun _ => ?_) (fun h9 => absurd h9 (by decide))
            refine lv_aload_n hx hb dX5_refusesAdd_68 rfl (lv_at hl 1 rfl) ?_
            refine va_get (D := D) (ci := 5) (v := .ref os) (C := RX5) (T := TX5) (N := 16) hx hb hts hinX5 hown hK hP qm hqm rfl 1 (by decide) hw7 (fun _ h9 => h9) hfs dX5_refusesAdd_69 ?_
            refine lv_iconst (v := 0) hx hb dX5_refusesAdd_72 (by decide) ?_
            refine rd_ald (q0 := qs) (t0 := t0) (j := 0) (v := nI n) hx hb hK hP hqs ht0 (rfl) (by omega) (by decide) (hS0) dX5_refusesAdd_73 ?_
            refine lv_bipush (v := 8) hx hb dX5_refusesAdd_74 (by decide) ?_
            refine rd_icmp_eq_n (a := n) (b := 8) (tgt := 89) (by omega) (by omega) hx hb dX5_refusesAdd_76 (by decide) (fun c_76 => ?_) (fun c_76 => ?_)
            · refine lv_iconst (v := 2) hx hb dX5_refusesAdd_89 (by decide) ?_
              refine lv_goto (tgt := 94) hx hb dX5_refusesAdd_90 (by decide) ?_
              exact rd_iret hx hb hr hlocks dX5_refusesAdd_94 (by simp [mRef, bI, c_7, c_17, c_27, c_38, c_49, c_76])
            · refine lv_aload_n hx hb dX5_refusesAdd_79 rfl (lv_at hl 1 rfl) ?_
              refine lv_iload_n hx hb dX5_refusesAdd_80 rfl (lv_at hl 2 rfl) ?_
              refine lv_iload_n hx hb dX5_refusesAdd_81 rfl (lv_at hl 3 rfl) ?_
              refine rd_callV (As := [.int x, .int y]) (rest := []) ⟨hx, hb, hml, hown, hts⟩ (c_X5_pointAt l D hmd x y) (cwV 2 hts gX5_refusesAdd_X5_pointAt rfl rfl rfl (by decide +kernel) ⟨by decide, by decide⟩) hK hN hP hqm rfl rfl hl.1 rfl (Nat.le_of_ble_eq_true rfl) ⟨by decide, by decide⟩ dX5_refusesAdd_82 ?_
              refine lv_iconst (v := (-1)) hx hb dX5_refusesAdd_85 (by decide) ?_
              refine lv_icmp_eq (tgt := 93) hx hb dX5_refusesAdd_86 (by decide) (fun c_86 => ?_) (fun c_86 => ?_)
              · refine lv_iconst (v := 0) hx hb dX5_refusesAdd_93 (by decide) ?_
                exact rd_iret hx hb hr hlocks dX5_refusesAdd_94 (by simp [mRef, bI, c_7, c_17, c_27, c_38, c_49, c_76, c_86])
              · refine lv_iconst (v := 2) hx hb dX5_refusesAdd_89 (by decide) ?_
                refine lv_goto (tgt := 94) hx hb dX5_refusesAdd_90 (by decide) ?_
                exact rd_iret hx hb hr hlocks dX5_refusesAdd_94 (by simp [mRef, bI, c_7, c_17, c_27, c_38, c_49, c_76, c_86])
set_option maxHeartbeats 4000000 in
set_option maxRecDepth 100000 in
theorem c_X5_openMany (l : Launch) (D : va_G) {w : va_W} {tys : List (ClassId × FieldType)} {om n : Nat} {P : Nat → Nat → Int32} (hmd : md_in w tys om n P) (b : Int32) : rd_M l yX5_openMany wsX5_openMany ({ frames := 6, cells := 0, slots := 0, locals := 137 } : Room) D w tys [.ref om, .int b] (mOM n P b) := by
  obtain ⟨qm, qs, t0, os, cI, S, fs, hqm, hfs, hqs, ht0, hn8, hS0, hS, hbk⟩ := id hmd
  refine rd_of (cc := cX5_openMany) (maxL := 4) (ret := some .int) (by decide) rfl (Nat.le_of_ble_eq_true rfl) ?_
  intro p e s m below meth c hx hb hr hml hts hown hlocks hP hK hN ls hl
  have hown : s.vm.findClass RX5 = some m.cls := hown
  have hl : lv_has ls 4 [(0, .ref om), (1, .int b)] := hl
  have hw7 := hts (.fieldLink RX5 7 "CornerLabelsModel" "s" "[I") (by decide +kernel)
  have hinX5 : ∀ w ∈ u_ws RX5 TX5 16, w ∈ wsX5_openMany := by decide +kernel
  refine lv_iconst (v := 0) hx hb dX5_openMany_0 (by decide) ?_
  refine lv_istore_n (lv' := [(2, .int 0), (0, .ref om), (1, .int b)]) hx hb dX5_openMany_1 rfl hl (by decide) rfl (fun ls hl => ?_)
  refine lv_iconst (v := 0) hx hb dX5_openMany_2 (by decide) ?_
  refine lv_istore_n (lv' := [(3, .int 0), (2, .int 0), (0, .ref om), (1, .int b)]) hx hb dX5_openMany_3 rfl hl (by decide) rfl (fun ls hl => ?_)
  suffices loop4 : ∀ (k4 i : Nat) (a : Int32) (ls : Array Slot), i ≤ n → n + 1 ≤ i + k4 → (mOM n P b = gF n (mOMF n P b) i a) → lv_has ls 4 [(0, .ref om), (1, .int b), (2, .int a), (3, .int (nI i))] → rd_W p l e wsX5_openMany ({ frames := 6, cells := 0, slots := 0, locals := 137 } : Room) s m [.ref om, .int b] below meth c (mOM n P b) (F0 m 4 ls []) from
    loop4 (n + 1) 0 0 ls (by omega) (by omega) (by rfl) (lv_sub hl [2, 3, 1, 0] rfl)
  intro k4
  induction k4 with
  | zero => intro i a ls h1 h2; exact absurd h2 (by omega)
  | succ k4 ih4 =>
    intro i a ls hle4 hlt4 inv4 hl
    refine lv_iload_n hx hb dX5_openMany_4 rfl (lv_at hl 3 rfl) ?_
    refine lv_aload_n hx hb dX5_openMany_5 rfl (lv_at hl 0 rfl) ?_
    refine va_get (D := D) (ci := 5) (v := .ref os) (C := RX5) (T := TX5) (N := 16) hx hb hts hinX5 hown hK hP qm hqm rfl 1 (by decide) hw7 (fun _ h9 => h9) hfs dX5_openMany_6 ?_
    refine lv_iconst (v := 0) hx hb dX5_openMany_9 (by decide) ?_
    refine rd_ald (q0 := qs) (t0 := t0) (j := 0) (v := nI n) hx hb hK hP hqs ht0 (rfl) (by omega) (by decide) (hS0) dX5_openMany_10 ?_
    refine rd_icmp_ge_n (a := i) (b := n) (tgt := 40) (by omega) (by omega) hx hb dX5_openMany_11 (by decide) (fun c_11 => ?_) (fun c_11 => ?_)
    · have c_11n := Nat.not_lt.mpr c_11
      refine lv_iload_n hx hb dX5_openMany_40 rfl (lv_at hl 2 rfl) ?_
      exact rd_iret hx hb hr hlocks dX5_openMany_41 (by rw [inv4, gF_end c_11])
    · have c_11n := Nat.not_le.mpr c_11
      refine lv_iload_n hx hb dX5_openMany_14 rfl (lv_at hl 2 rfl) ?_
      refine lv_iload_n hx hb dX5_openMany_15 rfl (lv_at hl 3 rfl) ?_
      refine lv_iload_n hx hb dX5_openMany_16 rfl (lv_at hl 1 rfl) ?_
      refine lv_icmp_ne (tgt := 24) hx hb dX5_openMany_17 (by decide) (fun c_17 => ?_) (fun c_17 => ?_)
      · refine lv_aload_n hx hb dX5_openMany_24 rfl (lv_at hl 0 rfl) ?_
        refine lv_iload_n hx hb dX5_openMany_25 rfl (lv_at hl 3 rfl) ?_
        refine rd_callV (As := [.int (nI i)]) (rest := [.int a]) ⟨hx, hb, hml, hown, hts⟩ (c_X5_openOf l D hmd c_11) (cwV 1 hts gX5_openMany_X5_openOf rfl rfl rfl (by decide +kernel) ⟨by decide, by decide⟩) hK hN hP hqm rfl rfl hl.1 rfl (Nat.le_of_ble_eq_true rfl) ⟨by decide, by decide⟩ dX5_openMany_26 ?_
        refine rd_callS (As := [.int (gMk n P i)]) (rest := [.int a]) ⟨hx, hb, hml, hown, hts⟩ (c_X5_ones l D (gMk n P i)) (va_cwS 1 hts gX5_openMany_X5_ones rfl rfl rfl (by decide +kernel) ⟨by decide, by decide⟩) hK hN hP rfl hl.1 rfl (Nat.le_of_ble_eq_true rfl) ⟨by decide, by decide⟩ dX5_openMany_29 ?_
        refine lv_iadd hx hb dX5_openMany_32 ?_
        refine lv_istore_n (lv' := [(2, .int (a + (mOnes (gMk n P i)))), (0, .ref om), (1, .int b), (3, .int (nI i))]) hx hb dX5_openMany_33 rfl hl (by decide) rfl (fun ls hl => ?_)
        refine lv_iinc (v := nI (i + 1)) (lv' := [(3, .int (nI (i + 1))), (2, .int (a + (mOnes (gMk n P i)))), (0, .ref om), (1, .int b)]) hx hb dX5_openMany_34 hl (k := 3) rfl (nI_add i 1) (by decide) rfl (fun ls hl => ?_)
        refine lv_goto (tgt := 4) hx hb dX5_openMany_37 (by decide) ?_
        exact ih4 (i + 1) (a + (mOnes (gMk n P i))) ls (by omega) (by omega) (by rw [inv4, gF_step c_11]; simp [mOMF, bI, c_11n, c_17]) (lv_sub hl [2, 3, 1, 0] rfl)
      · refine lv_iconst (v := 0) hx hb dX5_openMany_20 (by decide) ?_
        refine lv_goto (tgt := 32) hx hb dX5_openMany_21 (by decide) ?_
        refine lv_iadd hx hb dX5_openMany_32 ?_
        refine lv_istore_n (lv' := [(2, .int (a + 0)), (0, .ref om), (1, .int b), (3, .int (nI i))]) hx hb dX5_openMany_33 rfl hl (by decide) rfl (fun ls hl => ?_)
        refine lv_iinc (v := nI (i + 1)) (lv' := [(3, .int (nI (i + 1))), (2, .int (a + 0)), (0, .ref om), (1, .int b)]) hx hb dX5_openMany_34 hl (k := 3) rfl (nI_add i 1) (by decide) rfl (fun ls hl => ?_)
        refine lv_goto (tgt := 4) hx hb dX5_openMany_37 (by decide) ?_
        exact ih4 (i + 1) (a + 0) ls (by omega) (by omega) (by rw [inv4, gF_step c_11]; simp [mOMF, bI, c_11n, c_17]) (lv_sub hl [2, 3, 1, 0] rfl)
set_option maxHeartbeats 4000000 in
set_option maxRecDepth 100000 in
theorem c_X5_standing (l : Launch) (D : va_G) {w : va_W} {tys : List (ClassId × FieldType)} {om n : Nat} {P : Nat → Nat → Int32} (hmd : md_in w tys om n P) : rd_M l yX5_standing wsX5_standing ({ frames := 2, cells := 0, slots := 0, locals := 43 } : Room) D w tys [.ref om] (gN n P) := by
  obtain ⟨qm, qs, t0, os, cI, S, fs, hqm, hfs, hqs, ht0, hn8, hS0, hS, hbk⟩ := id hmd
  refine rd_of (cc := cX5_standing) (maxL := 3) (ret := some .int) (by decide) rfl (Nat.le_of_ble_eq_true rfl) ?_
  intro p e s m below meth c hx hb hr hml hts hown hlocks hP hK hN ls hl
  have hown : s.vm.findClass RX5 = some m.cls := hown
  have hl : lv_has ls 3 [(0, .ref om)] := hl
  have hw7 := hts (.fieldLink RX5 7 "CornerLabelsModel" "s" "[I") (by decide +kernel)
  have hinX5 : ∀ w ∈ u_ws RX5 TX5 16, w ∈ wsX5_standing := by decide +kernel
  refine lv_iconst (v := 0) hx hb dX5_standing_0 (by decide) ?_
  refine lv_istore_n (lv' := [(1, .int 0), (0, .ref om)]) hx hb dX5_standing_1 rfl hl (by decide) rfl (fun ls hl => ?_)
  refine lv_iconst (v := 0) hx hb dX5_standing_2 (by decide) ?_
  refine lv_istore_n (lv' := [(2, .int 0), (1, .int 0), (0, .ref om)]) hx hb dX5_standing_3 rfl hl (by decide) rfl (fun ls hl => ?_)
  suffices loop4 : ∀ (k4 i : Nat) (a : Int32) (ls : Array Slot), i ≤ n → n + 1 ≤ i + k4 → (gN n P = gF n (gNF P) i a) → lv_has ls 3 [(0, .ref om), (1, .int a), (2, .int (nI i))] → rd_W p l e wsX5_standing ({ frames := 2, cells := 0, slots := 0, locals := 43 } : Room) s m [.ref om] below meth c (gN n P) (F0 m 4 ls []) from
    loop4 (n + 1) 0 0 ls (by omega) (by omega) (by rfl) (lv_sub hl [2, 1, 0] rfl)
  intro k4
  induction k4 with
  | zero => intro i a ls h1 h2; exact absurd h2 (by omega)
  | succ k4 ih4 =>
    intro i a ls hle4 hlt4 inv4 hl
    refine lv_iload_n hx hb dX5_standing_4 rfl (lv_at hl 2 rfl) ?_
    refine lv_aload_n hx hb dX5_standing_5 rfl (lv_at hl 0 rfl) ?_
    refine va_get (D := D) (ci := 5) (v := .ref os) (C := RX5) (T := TX5) (N := 16) hx hb hts hinX5 hown hK hP qm hqm rfl 1 (by decide) hw7 (fun _ h9 => h9) hfs dX5_standing_6 ?_
    refine lv_iconst (v := 0) hx hb dX5_standing_9 (by decide) ?_
    refine rd_ald (q0 := qs) (t0 := t0) (j := 0) (v := nI n) hx hb hK hP hqs ht0 (rfl) (by omega) (by decide) (hS0) dX5_standing_10 ?_
    refine rd_icmp_ge_n (a := i) (b := n) (tgt := 37) (by omega) (by omega) hx hb dX5_standing_11 (by decide) (fun c_11 => ?_) (fun c_11 => ?_)
    · have c_11n := Nat.not_lt.mpr c_11
      refine lv_iload_n hx hb dX5_standing_37 rfl (lv_at hl 1 rfl) ?_
      exact rd_iret hx hb hr hlocks dX5_standing_38 (by rw [inv4, gF_end c_11])
    · have c_11n := Nat.not_le.mpr c_11
      refine lv_iload_n hx hb dX5_standing_14 rfl (lv_at hl 1 rfl) ?_
      refine lv_aload_n hx hb dX5_standing_15 rfl (lv_at hl 0 rfl) ?_
      refine lv_iload_n hx hb dX5_standing_16 rfl (lv_at hl 2 rfl) ?_
      refine rd_callV (As := [.int (nI i)]) (rest := [.int a]) ⟨hx, hb, hml, hown, hts⟩ (c_X5_cornerOf l D hmd c_11) (cwV 1 hts gX5_standing_X5_cornerOf rfl rfl rfl (by decide +kernel) ⟨by decide, by decide⟩) hK hN hP hqm rfl rfl hl.1 rfl (Nat.le_of_ble_eq_true rfl) ⟨by decide, by decide⟩ dX5_standing_17 ?_
      refine lv_iconst (v := (-1)) hx hb dX5_standing_20 (by decide) ?_
      refine lv_icmp_ne (tgt := 28) hx hb dX5_standing_21 (by decide) (fun c_21 => ?_) (fun c_21 => ?_)
      · refine lv_iconst (v := 1) hx hb dX5_standing_28 (by decide) ?_
        refine lv_iadd hx hb dX5_standing_29 ?_
        refine lv_istore_n (lv' := [(1, .int (a + 1)), (0, .ref om), (2, .int (nI i))]) hx hb dX5_standing_30 rfl hl (by decide) rfl (fun ls hl => ?_)
        refine lv_iinc (v := nI (i + 1)) (lv' := [(2, .int (nI (i + 1))), (1, .int (a + 1)), (0, .ref om)]) hx hb dX5_standing_31 hl (k := 2) rfl (nI_add i 1) (by decide) rfl (fun ls hl => ?_)
        refine lv_goto (tgt := 4) hx hb dX5_standing_34 (by decide) ?_
        exact ih4 (i + 1) (a + 1) ls (by omega) (by omega) (by rw [inv4, gF_step c_11]; simp [gNF, gSt, bI, c_11n, c_21]) (lv_sub hl [2, 1, 0] rfl)
      · refine lv_iconst (v := 0) hx hb dX5_standing_24 (by decide) ?_
        refine lv_goto (tgt := 29) hx hb dX5_standing_25 (by decide) ?_
        refine lv_iadd hx hb dX5_standing_29 ?_
        refine lv_istore_n (lv' := [(1, .int (a + 0)), (0, .ref om), (2, .int (nI i))]) hx hb dX5_standing_30 rfl hl (by decide) rfl (fun ls hl => ?_)
        refine lv_iinc (v := nI (i + 1)) (lv' := [(2, .int (nI (i + 1))), (1, .int (a + 0)), (0, .ref om)]) hx hb dX5_standing_31 hl (k := 2) rfl (nI_add i 1) (by decide) rfl (fun ls hl => ?_)
        refine lv_goto (tgt := 4) hx hb dX5_standing_34 (by decide) ?_
        exact ih4 (i + 1) (a + 0) ls (by omega) (by omega) (by rw [inv4, gF_step c_11]; simp [gNF, gSt, bI, c_11n, c_21]) (lv_sub hl [2, 1, 0] rfl)
set_option maxHeartbeats 4000000 in
set_option maxRecDepth 100000 in
theorem c_X5_crosses (l : Launch) (D : va_G) {w : va_W} {tys : List (ClassId × FieldType)} {om n : Nat} {P : Nat → Nat → Int32} (hmd : md_in w tys om n P) {i : Nat} (hi : i < n) : rd_M l yX5_crosses wsX5_crosses ({ frames := 3, cells := 0, slots := 0, locals := 66 } : Room) D w tys [.ref om, .int (nI i)] (gCr n P i) := by
  obtain ⟨qm, qs, t0, os, cI, S, fs, hqm, hfs, hqs, ht0, hn8, hS0, hS, hbk⟩ := id hmd
  refine rd_of (cc := cX5_crosses) (maxL := 6) (ret := some .int) (by decide) rfl (Nat.le_of_ble_eq_true rfl) ?_
  intro p e s m below meth c hx hb hr hml hts hown hlocks hP hK hN ls hl
  have hown : s.vm.findClass RX5 = some m.cls := hown
  have hl : lv_has ls 6 [(0, .ref om), (1, .int (nI i))] := hl
  have hw7 := hts (.fieldLink RX5 7 "CornerLabelsModel" "s" "[I") (by decide +kernel)
  have hinX5 : ∀ w ∈ u_ws RX5 TX5 16, w ∈ wsX5_crosses := by decide +kernel
  refine lv_aload_n hx hb dX5_crosses_0 rfl (lv_at hl 0 rfl) ?_
  refine lv_iload_n hx hb dX5_crosses_1 rfl (lv_at hl 1 rfl) ?_
  refine lv_iconst (v := 1) hx hb dX5_crosses_2 (by decide) ?_
  refine rd_callV (As := [.int (nI i), .int 1]) (rest := []) ⟨hx, hb, hml, hown, hts⟩ (c_X5_of l D hmd hi (k := 1) (by decide)) (cwV 2 hts gX5_crosses_X5_of rfl rfl rfl (by decide +kernel) ⟨by decide, by decide⟩) hK hN hP hqm rfl rfl hl.1 rfl (Nat.le_of_ble_eq_true rfl) ⟨by decide, by decide⟩ dX5_crosses_3 ?_
  refine lv_asi (y := P i 1) (rfl) ?_
  refine lv_istore_n (lv' := [(2, .int (P i 1)), (0, .ref om), (1, .int (nI i))]) hx hb dX5_crosses_6 rfl hl (by decide) rfl (fun ls hl => ?_)
  refine lv_iconst (v := 0) hx hb dX5_crosses_7 (by decide) ?_
  refine lv_istore_n (lv' := [(3, .int 0), (2, .int (P i 1)), (0, .ref om), (1, .int (nI i))]) hx hb dX5_crosses_8 rfl hl (by decide) rfl (fun ls hl => ?_)
  refine lv_iconst (v := 0) hx hb dX5_crosses_9 (by decide) ?_
  refine lv_istore (lv' := [(4, .int 0), (3, .int 0), (2, .int (P i 1)), (0, .ref om), (1, .int (nI i))]) hx hb dX5_crosses_10 hl (by decide) rfl (fun ls hl => ?_)
  suffices loop12 : ∀ (k12 j : Nat) (a : Int32) (ls : Array Slot), j ≤ n → n + 1 ≤ j + k12 → (gCr n P i = gF n (gCrF P i) j a) → lv_has ls 6 [(0, .ref om), (1, .int (nI i)), (2, .int (P i 1)), (3, .int a), (4, .int (nI j))] → rd_W p l e wsX5_crosses ({ frames := 3, cells := 0, slots := 0, locals := 66 } : Room) s m [.ref om, .int (nI i)] below meth c (gCr n P i) (F0 m 12 ls []) from
    loop12 (n + 1) 0 0 ls (by omega) (by omega) (by rfl) (lv_sub hl [3, 4, 2, 1, 0] rfl)
  intro k12
  induction k12 with
  | zero => intro j a ls h1 h2; exact absurd h2 (by omega)
  | succ k12 ih12 =>
    intro j a ls hle12 hlt12 inv12 hl
    refine lv_iload hx hb dX5_crosses_12 (lv_at hl 4 rfl) ?_
    refine lv_aload_n hx hb dX5_crosses_14 rfl (lv_at hl 0 rfl) ?_
    refine va_get (D := D) (ci := 5) (v := .ref os) (C := RX5) (T := TX5) (N := 16) hx hb hts hinX5 hown hK hP qm hqm rfl 1 (by decide) hw7 (fun _ h9 => h9) hfs dX5_crosses_15 ?_
    refine lv_iconst (v := 0) hx hb dX5_crosses_18 (by decide) ?_
    refine rd_ald (q0 := qs) (t0 := t0) (j := 0) (v := nI n) hx hb hK hP hqs ht0 (rfl) (by omega) (by decide) (hS0) dX5_crosses_19 ?_
    refine rd_icmp_ge_n (a := j) (b := n) (tgt := 126) (by omega) (by omega) hx hb dX5_crosses_20 (by decide) (fun c_20 => ?_) (fun c_20 => ?_)
    · have c_20n := Nat.not_lt.mpr c_20
      refine lv_iload_n hx hb dX5_crosses_126 rfl (lv_at hl 3 rfl) ?_
      exact rd_iret hx hb hr hlocks dX5_crosses_127 (by rw [inv12, gF_end c_20])
    · have c_20n := Nat.not_le.mpr c_20
      refine lv_aload_n hx hb dX5_crosses_23 rfl (lv_at hl 0 rfl) ?_
      refine lv_iload hx hb dX5_crosses_24 (lv_at hl 4 rfl) ?_
      refine rd_callV (As := [.int (nI j)]) (rest := []) ⟨hx, hb, hml, hown, hts⟩ (c_X5_cornerOf l D hmd c_20) (cwV 1 hts gX5_crosses_X5_cornerOf rfl rfl rfl (by decide +kernel) ⟨by decide, by decide⟩) hK hN hP hqm rfl rfl hl.1 rfl (Nat.le_of_ble_eq_true rfl) ⟨by decide, by decide⟩ dX5_crosses_26 ?_
      refine lv_istore (lv' := [(5, .int (P j 5)), (0, .ref om), (1, .int (nI i)), (2, .int (P i 1)), (3, .int a), (4, .int (nI j))]) hx hb dX5_crosses_29 hl (by decide) rfl (fun ls hl => ?_)
      refine lv_iload_n hx hb dX5_crosses_31 rfl (lv_at hl 4 rfl) ?_
      refine lv_aload_n hx hb dX5_crosses_32 rfl (lv_at hl 1 rfl) ?_
      refine lv_iload hx hb dX5_crosses_33 (lv_at hl 5 rfl) ?_
      refine lv_iconst (v := 1) hx hb dX5_crosses_35 (by decide) ?_
      refine rd_callV (As := [.int (nI j), .int 1]) (rest := [.int a]) ⟨hx, hb, hml, hown, hts⟩ (c_X5_of l D hmd c_20 (k := 1) (by decide)) (cwV 2 hts gX5_crosses_X5_of rfl rfl rfl (by decide +kernel) ⟨by decide, by decide⟩) hK hN hP hqm rfl rfl hl.1 rfl (Nat.le_of_ble_eq_true rfl) ⟨by decide, by decide⟩ dX5_crosses_36 ?_
      refine lv_asi (y := P j 1) (rfl) ?_
      refine lv_iload_n hx hb dX5_crosses_39 rfl (lv_at hl 3 rfl) ?_
      refine lv_icmp_ne (tgt := 63) hx hb dX5_crosses_40 (by decide) (fun c_40 => ?_) (fun c_40 => ?_)
      · refine lv_iconst (v := 0) hx hb dX5_crosses_63 (by decide) ?_
        refine lv_iadd hx hb dX5_crosses_64 ?_
        refine lv_istore_n (lv' := [(3, .int (a + 0)), (5, .int (P j 5)), (0, .ref om), (1, .int (nI i)), (2, .int (P i 1)), (4, .int (nI j))]) hx hb dX5_crosses_65 rfl hl (by decide) rfl (fun ls hl => ?_)
        refine lv_iload_n hx hb dX5_crosses_66 rfl (lv_at hl 0 rfl) ?_
        refine lv_iload hx hb dX5_crosses_67 (lv_at hl 1 rfl) ?_
        refine lv_iconst (v := (-1)) hx hb dX5_crosses_69 (by decide) ?_
        refine lv_icmp_eq (tgt := 117) hx hb dX5_crosses_70 (by decide) (fun c_70 => ?_) (fun c_70 => ?_)
        · refine lv_iconst (v := 0) hx hb dX5_crosses_117 (by decide) ?_
          refine lv_iadd hx hb dX5_crosses_118 ?_
          refine lv_istore_n (lv' := [(3, .int ((a + 0) + 0)), (5, .int (P j 5)), (0, .ref om), (1, .int (nI i)), (2, .int (P i 1)), (4, .int (nI j))]) hx hb dX5_crosses_119 rfl hl (by decide) rfl (fun ls hl => ?_)
          refine lv_iinc (v := nI (j + 1)) (lv' := [(4, .int (nI (j + 1))), (3, .int ((a + 0) + 0)), (5, .int (P j 5)), (0, .ref om), (1, .int (nI i)), (2, .int (P i 1))]) hx hb dX5_crosses_120 hl (k := 5) rfl (nI_add j 1) (by decide) rfl (fun ls hl => ?_)
          refine lv_goto (tgt := 12) hx hb dX5_crosses_123 (by decide) ?_
          exact ih12 (j + 1) ((a + 0) + 0) ls (by omega) (by omega) (by rw [inv12, gF_step c_20]; simp [gCrF, gPL, gLL_in hbk hi c_20, gSt, bI, c_20n, c_40, c_70]) (lv_sub hl [3, 4, 5, 1, 0] rfl)
        · refine lv_iload_n hx hb dX5_crosses_73 rfl (lv_at hl 4 rfl) ?_
          refine lv_aload_n hx hb dX5_crosses_74 rfl (lv_at hl 2 rfl) ?_
          refine lv_iload hx hb dX5_crosses_75 (lv_at hl 5 rfl) ?_
          refine lv_iload hx hb dX5_crosses_77 (lv_at hl 1 rfl) ?_
          refine rd_callV (As := [.int (nI j), .int (P j 5)]) (rest := [.int (P i 1), .int (a + 0)]) ⟨hx, hb, hml, hown, hts⟩ (c_X5_low l D hmd c_20 (bd_ok4 hbk c_20 c_70)) (cwV 2 hts gX5_crosses_X5_low rfl rfl rfl (by decide +kernel) ⟨by decide, by decide⟩) hK hN hP hqm rfl rfl hl.1 rfl (Nat.le_of_ble_eq_true rfl) ⟨by decide, by decide⟩ dX5_crosses_79 ?_
          refine lv_aload_n hx hb dX5_crosses_82 rfl (lv_at hl 2 rfl) ?_
          refine lv_iload hx hb dX5_crosses_83 (lv_at hl 5 rfl) ?_
          refine lv_iload hx hb dX5_crosses_85 (lv_at hl 1 rfl) ?_
          refine rd_callV (As := [.int (nI j), .int (P j 5)]) (rest := [.int (gT P j (P j 5)), .int (P i 1), .int (a + 0)]) ⟨hx, hb, hml, hown, hts⟩ (c_X5_high l D hmd c_20 (bd_ok4 hbk c_20 c_70)) (cwV 2 hts gX5_crosses_X5_high rfl rfl rfl (by decide +kernel) ⟨by decide, by decide⟩) hK hN hP hqm rfl rfl hl.1 rfl (Nat.le_of_ble_eq_true rfl) ⟨by decide, by decide⟩ dX5_crosses_87 ?_
          refine rd_callS (As := [.int (P i 1), .int (gT P j (P j 5)), .int (gT P j (P j 5) + P j 3 - 1)]) (rest := [.int (a + 0)]) ⟨hx, hb, hml, hown, hts⟩ (c_X5_in l D (P i 1) (gT P j (P j 5)) (gT P j (P j 5) + P j 3 - 1)) (va_cwS 3 hts gX5_crosses_X5_in rfl rfl rfl (by decide +kernel) ⟨by decide, by decide⟩) hK hN hP rfl hl.1 rfl (Nat.le_of_ble_eq_true rfl) ⟨by decide, by decide⟩ dX5_crosses_90 ?_
          refine rd_ifeq_b (tgt := 117) hx hb dX5_crosses_93 (by decide) (fun c_93 => ?_) (fun c_93 => ?_)
          · refine lv_iconst (v := 0) hx hb dX5_crosses_117 (by decide) ?_
            refine lv_iadd hx hb dX5_crosses_118 ?_
            refine lv_istore_n (lv' := [(3, .int ((a + 0) + 0)), (5, .int (P j 5)), (0, .ref om), (1, .int (nI i)), (2, .int (P i 1)), (4, .int (nI j))]) hx hb dX5_crosses_119 rfl hl (by decide) rfl (fun ls hl => ?_)
            refine lv_iinc (v := nI (j + 1)) (lv' := [(4, .int (nI (j + 1))), (3, .int ((a + 0) + 0)), (5, .int (P j 5)), (0, .ref om), (1, .int (nI i)), (2, .int (P i 1))]) hx hb dX5_crosses_120 hl (k := 5) rfl (nI_add j 1) (by decide) rfl (fun ls hl => ?_)
            refine lv_goto (tgt := 12) hx hb dX5_crosses_123 (by decide) ?_
            exact ih12 (j + 1) ((a + 0) + 0) ls (by omega) (by omega) (by rw [inv12, gF_step c_20]; simp [gCrF, gPL, gLL_in hbk hi c_20, gSt, bI, c_20n, c_40, c_70, c_93]) (lv_sub hl [3, 4, 5, 1, 0] rfl)
          · refine lv_aload_n hx hb dX5_crosses_96 rfl (lv_at hl 2 rfl) ?_
            refine lv_iload hx hb dX5_crosses_97 (lv_at hl 5 rfl) ?_
            refine lv_iload hx hb dX5_crosses_99 (lv_at hl 1 rfl) ?_
            refine rd_callV (As := [.int (nI j), .int (P j 5)]) (rest := [.int (a + 0)]) ⟨hx, hb, hml, hown, hts⟩ (c_X5_right l D hmd c_20 (P j 5)) (cwV 2 hts gX5_crosses_X5_right rfl rfl rfl (by decide +kernel) ⟨by decide, by decide⟩) hK hN hP hqm rfl rfl hl.1 rfl (Nat.le_of_ble_eq_true rfl) ⟨by decide, by decide⟩ dX5_crosses_101 ?_
            refine lv_aload_n hx hb dX5_crosses_104 rfl (lv_at hl 2 rfl) ?_
            refine lv_iload_n hx hb dX5_crosses_105 rfl (lv_at hl 3 rfl) ?_
            refine lv_iconst (v := 0) hx hb dX5_crosses_106 (by decide) ?_
            refine rd_callV (As := [.int (nI i), .int 0]) (rest := [.int (gL P j (P j 5) + P j 2 - 1), .int (a + 0)]) ⟨hx, hb, hml, hown, hts⟩ (c_X5_of l D hmd hi (k := 0) (by decide)) (cwV 2 hts gX5_crosses_X5_of rfl rfl rfl (by decide +kernel) ⟨by decide, by decide⟩) hK hN hP hqm rfl rfl hl.1 rfl (Nat.le_of_ble_eq_true rfl) ⟨by decide, by decide⟩ dX5_crosses_107 ?_
            refine lv_asi (y := P i 0) (rfl) ?_
            refine lv_icmp_le (tgt := 117) hx hb dX5_crosses_110 (by decide) (fun c_110 => ?_) (fun c_110 => ?_)
            · have c_110n := Int32.not_lt.mpr c_110
              refine lv_iconst (v := 0) hx hb dX5_crosses_117 (by decide) ?_
              refine lv_iadd hx hb dX5_crosses_118 ?_
              refine lv_istore_n (lv' := [(3, .int ((a + 0) + 0)), (5, .int (P j 5)), (0, .ref om), (1, .int (nI i)), (2, .int (P i 1)), (4, .int (nI j))]) hx hb dX5_crosses_119 rfl hl (by decide) rfl (fun ls hl => ?_)
              refine lv_iinc (v := nI (j + 1)) (lv' := [(4, .int (nI (j + 1))), (3, .int ((a + 0) + 0)), (5, .int (P j 5)), (0, .ref om), (1, .int (nI i)), (2, .int (P i 1))]) hx hb dX5_crosses_120 hl (k := 5) rfl (nI_add j 1) (by decide) rfl (fun ls hl => ?_)
              refine lv_goto (tgt := 12) hx hb dX5_crosses_123 (by decide) ?_
              exact ih12 (j + 1) ((a + 0) + 0) ls (by omega) (by omega) (by rw [inv12, gF_step c_20]; simp [gCrF, gPL, gLL_in hbk hi c_20, gSt, bI, c_20n, c_40, c_70, c_93, c_110, c_110n]) (lv_sub hl [3, 4, 5, 1, 0] rfl)
            · have c_110n := Int32.not_le.mp c_110
              refine lv_iconst (v := 1) hx hb dX5_crosses_113 (by decide) ?_
              refine lv_goto (tgt := 118) hx hb dX5_crosses_114 (by decide) ?_
              refine lv_iadd hx hb dX5_crosses_118 ?_
              refine lv_istore_n (lv' := [(3, .int ((a + 0) + 1)), (5, .int (P j 5)), (0, .ref om), (1, .int (nI i)), (2, .int (P i 1)), (4, .int (nI j))]) hx hb dX5_crosses_119 rfl hl (by decide) rfl (fun ls hl => ?_)
              refine lv_iinc (v := nI (j + 1)) (lv' := [(4, .int (nI (j + 1))), (3, .int ((a + 0) + 1)), (5, .int (P j 5)), (0, .ref om), (1, .int (nI i)), (2, .int (P i 1))]) hx hb dX5_crosses_120 hl (k := 5) rfl (nI_add j 1) (by decide) rfl (fun ls hl => ?_)
              refine lv_goto (tgt := 12) hx hb dX5_crosses_123 (by decide) ?_
              exact ih12 (j + 1) ((a + 0) + 1) ls (by omega) (by omega) (by rw [inv12, gF_step c_20]; simp [gCrF, gPL, gLL_in hbk hi c_20, gSt, bI, c_20n, c_40, c_70, c_93, c_110, c_110n]) (lv_sub hl [3, 4, 5, 1, 0] rfl)
      · refine lv_aload_n hx hb dX5_crosses_43 rfl (lv_at hl 1 rfl) ?_
        refine lv_iload hx hb dX5_crosses_44 (lv_at hl 5 rfl) ?_
        refine lv_iconst (v := 0) hx hb dX5_crosses_46 (by decide) ?_
        refine rd_callV (As := [.int (nI j), .int 0]) (rest := [.int a]) ⟨hx, hb, hml, hown, hts⟩ (c_X5_of l D hmd c_20 (k := 0) (by decide)) (cwV 2 hts gX5_crosses_X5_of rfl rfl rfl (by decide +kernel) ⟨by decide, by decide⟩) hK hN hP hqm rfl rfl hl.1 rfl (Nat.le_of_ble_eq_true rfl) ⟨by decide, by decide⟩ dX5_crosses_47 ?_
        refine lv_asi (y := P j 0) (rfl) ?_
        refine lv_aload_n hx hb dX5_crosses_50 rfl (lv_at hl 1 rfl) ?_
        refine lv_iload_n hx hb dX5_crosses_51 rfl (lv_at hl 2 rfl) ?_
        refine lv_iconst (v := 0) hx hb dX5_crosses_52 (by decide) ?_
        refine rd_callV (As := [.int (nI i), .int 0]) (rest := [.int (P j 0), .int a]) ⟨hx, hb, hml, hown, hts⟩ (c_X5_of l D hmd hi (k := 0) (by decide)) (cwV 2 hts gX5_crosses_X5_of rfl rfl rfl (by decide +kernel) ⟨by decide, by decide⟩) hK hN hP hqm rfl rfl hl.1 rfl (Nat.le_of_ble_eq_true rfl) ⟨by decide, by decide⟩ dX5_crosses_53 ?_
        refine lv_asi (y := P i 0) (rfl) ?_
        refine lv_icmp_le (tgt := 63) hx hb dX5_crosses_56 (by decide) (fun c_56 => ?_) (fun c_56 => ?_)
        · have c_56n := Int32.not_lt.mpr c_56
          refine lv_iconst (v := 0) hx hb dX5_crosses_63 (by decide) ?_
          refine lv_iadd hx hb dX5_crosses_64 ?_
          refine lv_istore_n (lv' := [(3, .int (a + 0)), (5, .int (P j 5)), (0, .ref om), (1, .int (nI i)), (2, .int (P i 1)), (4, .int (nI j))]) hx hb dX5_crosses_65 rfl hl (by decide) rfl (fun ls hl => ?_)
          refine lv_iload_n hx hb dX5_crosses_66 rfl (lv_at hl 0 rfl) ?_
          refine lv_iload hx hb dX5_crosses_67 (lv_at hl 1 rfl) ?_
          refine lv_iconst (v := (-1)) hx hb dX5_crosses_69 (by decide) ?_
          refine lv_icmp_eq (tgt := 117) hx hb dX5_crosses_70 (by decide) (fun c_70 => ?_) (fun c_70 => ?_)
          · refine lv_iconst (v := 0) hx hb dX5_crosses_117 (by decide) ?_
            refine lv_iadd hx hb dX5_crosses_118 ?_
            refine lv_istore_n (lv' := [(3, .int ((a + 0) + 0)), (5, .int (P j 5)), (0, .ref om), (1, .int (nI i)), (2, .int (P i 1)), (4, .int (nI j))]) hx hb dX5_crosses_119 rfl hl (by decide) rfl (fun ls hl => ?_)
            refine lv_iinc (v := nI (j + 1)) (lv' := [(4, .int (nI (j + 1))), (3, .int ((a + 0) + 0)), (5, .int (P j 5)), (0, .ref om), (1, .int (nI i)), (2, .int (P i 1))]) hx hb dX5_crosses_120 hl (k := 5) rfl (nI_add j 1) (by decide) rfl (fun ls hl => ?_)
            refine lv_goto (tgt := 12) hx hb dX5_crosses_123 (by decide) ?_
            exact ih12 (j + 1) ((a + 0) + 0) ls (by omega) (by omega) (by rw [inv12, gF_step c_20]; simp [gCrF, gPL, gLL_in hbk hi c_20, gSt, bI, c_20n, c_40, c_56, c_56n, c_70]) (lv_sub hl [3, 4, 5, 1, 0] rfl)
          · refine lv_iload_n hx hb dX5_crosses_73 rfl (lv_at hl 4 rfl) ?_
            refine lv_aload_n hx hb dX5_crosses_74 rfl (lv_at hl 2 rfl) ?_
            refine lv_iload hx hb dX5_crosses_75 (lv_at hl 5 rfl) ?_
            refine lv_iload hx hb dX5_crosses_77 (lv_at hl 1 rfl) ?_
            refine rd_callV (As := [.int (nI j), .int (P j 5)]) (rest := [.int (P i 1), .int (a + 0)]) ⟨hx, hb, hml, hown, hts⟩ (c_X5_low l D hmd c_20 (bd_ok4 hbk c_20 c_70)) (cwV 2 hts gX5_crosses_X5_low rfl rfl rfl (by decide +kernel) ⟨by decide, by decide⟩) hK hN hP hqm rfl rfl hl.1 rfl (Nat.le_of_ble_eq_true rfl) ⟨by decide, by decide⟩ dX5_crosses_79 ?_
            refine lv_aload_n hx hb dX5_crosses_82 rfl (lv_at hl 2 rfl) ?_
            refine lv_iload hx hb dX5_crosses_83 (lv_at hl 5 rfl) ?_
            refine lv_iload hx hb dX5_crosses_85 (lv_at hl 1 rfl) ?_
            refine rd_callV (As := [.int (nI j), .int (P j 5)]) (rest := [.int (gT P j (P j 5)), .int (P i 1), .int (a + 0)]) ⟨hx, hb, hml, hown, hts⟩ (c_X5_high l D hmd c_20 (bd_ok4 hbk c_20 c_70)) (cwV 2 hts gX5_crosses_X5_high rfl rfl rfl (by decide +kernel) ⟨by decide, by decide⟩) hK hN hP hqm rfl rfl hl.1 rfl (Nat.le_of_ble_eq_true rfl) ⟨by decide, by decide⟩ dX5_crosses_87 ?_
            refine rd_callS (As := [.int (P i 1), .int (gT P j (P j 5)), .int (gT P j (P j 5) + P j 3 - 1)]) (rest := [.int (a + 0)]) ⟨hx, hb, hml, hown, hts⟩ (c_X5_in l D (P i 1) (gT P j (P j 5)) (gT P j (P j 5) + P j 3 - 1)) (va_cwS 3 hts gX5_crosses_X5_in rfl rfl rfl (by decide +kernel) ⟨by decide, by decide⟩) hK hN hP rfl hl.1 rfl (Nat.le_of_ble_eq_true rfl) ⟨by decide, by decide⟩ dX5_crosses_90 ?_
            refine rd_ifeq_b (tgt := 117) hx hb dX5_crosses_93 (by decide) (fun c_93 => ?_) (fun c_93 => ?_)
            · refine lv_iconst (v := 0) hx hb dX5_crosses_117 (by decide) ?_
              refine lv_iadd hx hb dX5_crosses_118 ?_
              refine lv_istore_n (lv' := [(3, .int ((a + 0) + 0)), (5, .int (P j 5)), (0, .ref om), (1, .int (nI i)), (2, .int (P i 1)), (4, .int (nI j))]) hx hb dX5_crosses_119 rfl hl (by decide) rfl (fun ls hl => ?_)
              refine lv_iinc (v := nI (j + 1)) (lv' := [(4, .int (nI (j + 1))), (3, .int ((a + 0) + 0)), (5, .int (P j 5)), (0, .ref om), (1, .int (nI i)), (2, .int (P i 1))]) hx hb dX5_crosses_120 hl (k := 5) rfl (nI_add j 1) (by decide) rfl (fun ls hl => ?_)
              refine lv_goto (tgt := 12) hx hb dX5_crosses_123 (by decide) ?_
              exact ih12 (j + 1) ((a + 0) + 0) ls (by omega) (by omega) (by rw [inv12, gF_step c_20]; simp [gCrF, gPL, gLL_in hbk hi c_20, gSt, bI, c_20n, c_40, c_56, c_56n, c_70, c_93]) (lv_sub hl [3, 4, 5, 1, 0] rfl)
            · refine lv_aload_n hx hb dX5_crosses_96 rfl (lv_at hl 2 rfl) ?_
              refine lv_iload hx hb dX5_crosses_97 (lv_at hl 5 rfl) ?_
              refine lv_iload hx hb dX5_crosses_99 (lv_at hl 1 rfl) ?_
              refine rd_callV (As := [.int (nI j), .int (P j 5)]) (rest := [.int (a + 0)]) ⟨hx, hb, hml, hown, hts⟩ (c_X5_right l D hmd c_20 (P j 5)) (cwV 2 hts gX5_crosses_X5_right rfl rfl rfl (by decide +kernel) ⟨by decide, by decide⟩) hK hN hP hqm rfl rfl hl.1 rfl (Nat.le_of_ble_eq_true rfl) ⟨by decide, by decide⟩ dX5_crosses_101 ?_
              refine lv_aload_n hx hb dX5_crosses_104 rfl (lv_at hl 2 rfl) ?_
              refine lv_iload_n hx hb dX5_crosses_105 rfl (lv_at hl 3 rfl) ?_
              refine lv_iconst (v := 0) hx hb dX5_crosses_106 (by decide) ?_
              refine rd_callV (As := [.int (nI i), .int 0]) (rest := [.int (gL P j (P j 5) + P j 2 - 1), .int (a + 0)]) ⟨hx, hb, hml, hown, hts⟩ (c_X5_of l D hmd hi (k := 0) (by decide)) (cwV 2 hts gX5_crosses_X5_of rfl rfl rfl (by decide +kernel) ⟨by decide, by decide⟩) hK hN hP hqm rfl rfl hl.1 rfl (Nat.le_of_ble_eq_true rfl) ⟨by decide, by decide⟩ dX5_crosses_107 ?_
              refine lv_asi (y := P i 0) (rfl) ?_
              refine lv_icmp_le (tgt := 117) hx hb dX5_crosses_110 (by decide) (fun c_110 => ?_) (fun c_110 => ?_)
              · have c_110n := Int32.not_lt.mpr c_110
                refine lv_iconst (v := 0) hx hb dX5_crosses_117 (by decide) ?_
                refine lv_iadd hx hb dX5_crosses_118 ?_
                refine lv_istore_n (lv' := [(3, .int ((a + 0) + 0)), (5, .int (P j 5)), (0, .ref om), (1, .int (nI i)), (2, .int (P i 1)), (4, .int (nI j))]) hx hb dX5_crosses_119 rfl hl (by decide) rfl (fun ls hl => ?_)
                refine lv_iinc (v := nI (j + 1)) (lv' := [(4, .int (nI (j + 1))), (3, .int ((a + 0) + 0)), (5, .int (P j 5)), (0, .ref om), (1, .int (nI i)), (2, .int (P i 1))]) hx hb dX5_crosses_120 hl (k := 5) rfl (nI_add j 1) (by decide) rfl (fun ls hl => ?_)
                refine lv_goto (tgt := 12) hx hb dX5_crosses_123 (by decide) ?_
                exact ih12 (j + 1) ((a + 0) + 0) ls (by omega) (by omega) (by rw [inv12, gF_step c_20]; simp [gCrF, gPL, gLL_in hbk hi c_20, gSt, bI, c_20n, c_40, c_56, c_56n, c_70, c_93, c_110, c_110n]) (lv_sub hl [3, 4, 5, 1, 0] rfl)
              · have c_110n := Int32.not_le.mp c_110
                refine lv_iconst (v := 1) hx hb dX5_crosses_113 (by decide) ?_
                refine lv_goto (tgt := 118) hx hb dX5_crosses_114 (by decide) ?_
                refine lv_iadd hx hb dX5_crosses_118 ?_
                refine lv_istore_n (lv' := [(3, .int ((a + 0) + 1)), (5, .int (P j 5)), (0, .ref om), (1, .int (nI i)), (2, .int (P i 1)), (4, .int (nI j))]) hx hb dX5_crosses_119 rfl hl (by decide) rfl (fun ls hl => ?_)
                refine lv_iinc (v := nI (j + 1)) (lv' := [(4, .int (nI (j + 1))), (3, .int ((a + 0) + 1)), (5, .int (P j 5)), (0, .ref om), (1, .int (nI i)), (2, .int (P i 1))]) hx hb dX5_crosses_120 hl (k := 5) rfl (nI_add j 1) (by decide) rfl (fun ls hl => ?_)
                refine lv_goto (tgt := 12) hx hb dX5_crosses_123 (by decide) ?_
                exact ih12 (j + 1) ((a + 0) + 1) ls (by omega) (by omega) (by rw [inv12, gF_step c_20]; simp [gCrF, gPL, gLL_in hbk hi c_20, gSt, bI, c_20n, c_40, c_56, c_56n, c_70, c_93, c_110, c_110n]) (lv_sub hl [3, 4, 5, 1, 0] rfl)
        · have c_56n := Int32.not_le.mp c_56
          refine lv_iconst (v := 1) hx hb dX5_crosses_59 (by decide) ?_
          refine lv_goto (tgt := 64) hx hb dX5_crosses_60 (by decide) ?_
          refine lv_iadd hx hb dX5_crosses_64 ?_
          refine lv_istore_n (lv' := [(3, .int (a + 1)), (5, .int (P j 5)), (0, .ref om), (1, .int (nI i)), (2, .int (P i 1)), (4, .int (nI j))]) hx hb dX5_crosses_65 rfl hl (by decide) rfl (fun ls hl => ?_)
          refine lv_iload_n hx hb dX5_crosses_66 rfl (lv_at hl 0 rfl) ?_
          refine lv_iload hx hb dX5_crosses_67 (lv_at hl 1 rfl) ?_
          refine lv_iconst (v := (-1)) hx hb dX5_crosses_69 (by decide) ?_
          refine lv_icmp_eq (tgt := 117) hx hb dX5_crosses_70 (by decide) (fun c_70 => ?_) (fun c_70 => ?_)
          · refine lv_iconst (v := 0) hx hb dX5_crosses_117 (by decide) ?_
            refine lv_iadd hx hb dX5_crosses_118 ?_
            refine lv_istore_n (lv' := [(3, .int ((a + 1) + 0)), (5, .int (P j 5)), (0, .ref om), (1, .int (nI i)), (2, .int (P i 1)), (4, .int (nI j))]) hx hb dX5_crosses_119 rfl hl (by decide) rfl (fun ls hl => ?_)
            refine lv_iinc (v := nI (j + 1)) (lv' := [(4, .int (nI (j + 1))), (3, .int ((a + 1) + 0)), (5, .int (P j 5)), (0, .ref om), (1, .int (nI i)), (2, .int (P i 1))]) hx hb dX5_crosses_120 hl (k := 5) rfl (nI_add j 1) (by decide) rfl (fun ls hl => ?_)
            refine lv_goto (tgt := 12) hx hb dX5_crosses_123 (by decide) ?_
            exact ih12 (j + 1) ((a + 1) + 0) ls (by omega) (by omega) (by rw [inv12, gF_step c_20]; simp [gCrF, gPL, gLL_in hbk hi c_20, gSt, bI, c_20n, c_40, c_56, c_56n, c_70]) (lv_sub hl [3, 4, 5, 1, 0] rfl)
          · refine lv_iload_n hx hb dX5_crosses_73 rfl (lv_at hl 4 rfl) ?_
            refine lv_aload_n hx hb dX5_crosses_74 rfl (lv_at hl 2 rfl) ?_
            refine lv_iload hx hb dX5_crosses_75 (lv_at hl 5 rfl) ?_
            refine lv_iload hx hb dX5_crosses_77 (lv_at hl 1 rfl) ?_
            refine rd_callV (As := [.int (nI j), .int (P j 5)]) (rest := [.int (P i 1), .int (a + 1)]) ⟨hx, hb, hml, hown, hts⟩ (c_X5_low l D hmd c_20 (bd_ok4 hbk c_20 c_70)) (cwV 2 hts gX5_crosses_X5_low rfl rfl rfl (by decide +kernel) ⟨by decide, by decide⟩) hK hN hP hqm rfl rfl hl.1 rfl (Nat.le_of_ble_eq_true rfl) ⟨by decide, by decide⟩ dX5_crosses_79 ?_
            refine lv_aload_n hx hb dX5_crosses_82 rfl (lv_at hl 2 rfl) ?_
            refine lv_iload hx hb dX5_crosses_83 (lv_at hl 5 rfl) ?_
            refine lv_iload hx hb dX5_crosses_85 (lv_at hl 1 rfl) ?_
            refine rd_callV (As := [.int (nI j), .int (P j 5)]) (rest := [.int (gT P j (P j 5)), .int (P i 1), .int (a + 1)]) ⟨hx, hb, hml, hown, hts⟩ (c_X5_high l D hmd c_20 (bd_ok4 hbk c_20 c_70)) (cwV 2 hts gX5_crosses_X5_high rfl rfl rfl (by decide +kernel) ⟨by decide, by decide⟩) hK hN hP hqm rfl rfl hl.1 rfl (Nat.le_of_ble_eq_true rfl) ⟨by decide, by decide⟩ dX5_crosses_87 ?_
            refine rd_callS (As := [.int (P i 1), .int (gT P j (P j 5)), .int (gT P j (P j 5) + P j 3 - 1)]) (rest := [.int (a + 1)]) ⟨hx, hb, hml, hown, hts⟩ (c_X5_in l D (P i 1) (gT P j (P j 5)) (gT P j (P j 5) + P j 3 - 1)) (va_cwS 3 hts gX5_crosses_X5_in rfl rfl rfl (by decide +kernel) ⟨by decide, by decide⟩) hK hN hP rfl hl.1 rfl (Nat.le_of_ble_eq_true rfl) ⟨by decide, by decide⟩ dX5_crosses_90 ?_
            refine rd_ifeq_b (tgt := 117) hx hb dX5_crosses_93 (by decide) (fun c_93 => ?_) (fun c_93 => ?_)
            · refine lv_iconst (v := 0) hx hb dX5_crosses_117 (by decide) ?_
              refine lv_iadd hx hb dX5_crosses_118 ?_
              refine lv_istore_n (lv' := [(3, .int ((a + 1) + 0)), (5, .int (P j 5)), (0, .ref om), (1, .int (nI i)), (2, .int (P i 1)), (4, .int (nI j))]) hx hb dX5_crosses_119 rfl hl (by decide) rfl (fun ls hl => ?_)
              refine lv_iinc (v := nI (j + 1)) (lv' := [(4, .int (nI (j + 1))), (3, .int ((a + 1) + 0)), (5, .int (P j 5)), (0, .ref om), (1, .int (nI i)), (2, .int (P i 1))]) hx hb dX5_crosses_120 hl (k := 5) rfl (nI_add j 1) (by decide) rfl (fun ls hl => ?_)
              refine lv_goto (tgt := 12) hx hb dX5_crosses_123 (by decide) ?_
              exact ih12 (j + 1) ((a + 1) + 0) ls (by omega) (by omega) (by rw [inv12, gF_step c_20]; simp [gCrF, gPL, gLL_in hbk hi c_20, gSt, bI, c_20n, c_40, c_56, c_56n, c_70, c_93]) (lv_sub hl [3, 4, 5, 1, 0] rfl)
            · refine lv_aload_n hx hb dX5_crosses_96 rfl (lv_at hl 2 rfl) ?_
              refine lv_iload hx hb dX5_crosses_97 (lv_at hl 5 rfl) ?_
              refine lv_iload hx hb dX5_crosses_99 (lv_at hl 1 rfl) ?_
              refine rd_callV (As := [.int (nI j), .int (P j 5)]) (rest := [.int (a + 1)]) ⟨hx, hb, hml, hown, hts⟩ (c_X5_right l D hmd c_20 (P j 5)) (cwV 2 hts gX5_crosses_X5_right rfl rfl rfl (by decide +kernel) ⟨by decide, by decide⟩) hK hN hP hqm rfl rfl hl.1 rfl (Nat.le_of_ble_eq_true rfl) ⟨by decide, by decide⟩ dX5_crosses_101 ?_
              refine lv_aload_n hx hb dX5_crosses_104 rfl (lv_at hl 2 rfl) ?_
              refine lv_iload_n hx hb dX5_crosses_105 rfl (lv_at hl 3 rfl) ?_
              refine lv_iconst (v := 0) hx hb dX5_crosses_106 (by decide) ?_
              refine rd_callV (As := [.int (nI i), .int 0]) (rest := [.int (gL P j (P j 5) + P j 2 - 1), .int (a + 1)]) ⟨hx, hb, hml, hown, hts⟩ (c_X5_of l D hmd hi (k := 0) (by decide)) (cwV 2 hts gX5_crosses_X5_of rfl rfl rfl (by decide +kernel) ⟨by decide, by decide⟩) hK hN hP hqm rfl rfl hl.1 rfl (Nat.le_of_ble_eq_true rfl) ⟨by decide, by decide⟩ dX5_crosses_107 ?_
              refine lv_asi (y := P i 0) (rfl) ?_
              refine lv_icmp_le (tgt := 117) hx hb dX5_crosses_110 (by decide) (fun c_110 => ?_) (fun c_110 => ?_)
              · have c_110n := Int32.not_lt.mpr c_110
                refine lv_iconst (v := 0) hx hb dX5_crosses_117 (by decide) ?_
                refine lv_iadd hx hb dX5_crosses_118 ?_
                refine lv_istore_n (lv' := [(3, .int ((a + 1) + 0)), (5, .int (P j 5)), (0, .ref om), (1, .int (nI i)), (2, .int (P i 1)), (4, .int (nI j))]) hx hb dX5_crosses_119 rfl hl (by decide) rfl (fun ls hl => ?_)
                refine lv_iinc (v := nI (j + 1)) (lv' := [(4, .int (nI (j + 1))), (3, .int ((a + 1) + 0)), (5, .int (P j 5)), (0, .ref om), (1, .int (nI i)), (2, .int (P i 1))]) hx hb dX5_crosses_120 hl (k := 5) rfl (nI_add j 1) (by decide) rfl (fun ls hl => ?_)
                refine lv_goto (tgt := 12) hx hb dX5_crosses_123 (by decide) ?_
                exact ih12 (j + 1) ((a + 1) + 0) ls (by omega) (by omega) (by rw [inv12, gF_step c_20]; simp [gCrF, gPL, gLL_in hbk hi c_20, gSt, bI, c_20n, c_40, c_56, c_56n, c_70, c_93, c_110, c_110n]) (lv_sub hl [3, 4, 5, 1, 0] rfl)
              · have c_110n := Int32.not_le.mp c_110
                refine lv_iconst (v := 1) hx hb dX5_crosses_113 (by decide) ?_
                refine lv_goto (tgt := 118) hx hb dX5_crosses_114 (by decide) ?_
                refine lv_iadd hx hb dX5_crosses_118 ?_
                refine lv_istore_n (lv' := [(3, .int ((a + 1) + 1)), (5, .int (P j 5)), (0, .ref om), (1, .int (nI i)), (2, .int (P i 1)), (4, .int (nI j))]) hx hb dX5_crosses_119 rfl hl (by decide) rfl (fun ls hl => ?_)
                refine lv_iinc (v := nI (j + 1)) (lv' := [(4, .int (nI (j + 1))), (3, .int ((a + 1) + 1)), (5, .int (P j 5)), (0, .ref om), (1, .int (nI i)), (2, .int (P i 1))]) hx hb dX5_crosses_120 hl (k := 5) rfl (nI_add j 1) (by decide) rfl (fun ls hl => ?_)
                refine lv_goto (tgt := 12) hx hb dX5_crosses_123 (by decide) ?_
                exact ih12 (j + 1) ((a + 1) + 1) ls (by omega) (by omega) (by rw [inv12, gF_step c_20]; simp [gCrF, gPL, gLL_in hbk hi c_20, gSt, bI, c_20n, c_40, c_56, c_56n, c_70, c_93, c_110, c_110n]) (lv_sub hl [3, 4, 5, 1, 0] rfl)
set_option maxHeartbeats 4000000 in
set_option maxRecDepth 100000 in
theorem c_X5_tellsPoint (l : Launch) (D : va_G) {w : va_W} {tys : List (ClassId × FieldType)} {om n : Nat} {P : Nat → Nat → Int32} (hmd : md_in w tys om n P) {i : Nat} (hi : i < n) {k : Nat} (hk : k < 9) : rd_M l yX5_tellsPoint wsX5_tellsPoint ({ frames := 7, cells := 0, slots := 0, locals := 161 } : Room) D w tys [.ref om, .int (nI i), .int (nI k)] (gPr n P i k) := by
  obtain ⟨qm, qs, t0, os, cI, S, fs, hqm, hfs, hqs, ht0, hn8, hS0, hS, hbk⟩ := id hmd
  refine rd_of (cc := cX5_tellsPoint) (maxL := 3) (ret := some .int) (by decide) rfl (Nat.le_of_ble_eq_true rfl) ?_
  intro p e s m below meth c hx hb hr hml hts hown hlocks hP hK hN ls hl
  have hown : s.vm.findClass RX5 = some m.cls := hown
  have hl : lv_has ls 3 [(0, .ref om), (1, .int (nI i)), (2, .int (nI k))] := hl
  refine lv_iload_n hx hb dX5_tellsPoint_0 rfl (lv_at hl 2 rfl) ?_
  rcases (show k = 0 ∨ k = 1 ∨ k = 2 ∨ k = 3 ∨ k = 4 ∨ k = 5 ∨ k = 6 ∨ k = 7 ∨ k = 8 by omega) with rfl | rfl | rfl | rfl | rfl | rfl | rfl | rfl | rfl
  · refine lv_tableOut (tgt := 56) hx hb dX5_tellsPoint_1 (by decide) (by decide) ?_
    refine lv_aload_n hx hb dX5_tellsPoint_56 rfl (lv_at hl 0 rfl) ?_
    refine lv_iload_n hx hb dX5_tellsPoint_57 rfl (lv_at hl 1 rfl) ?_
    refine lv_iload_n hx hb dX5_tellsPoint_58 rfl (lv_at hl 2 rfl) ?_
    refine rd_callV (As := [.int (nI i), .int (nI 0)]) (rest := []) ⟨hx, hb, hml, hown, hts⟩ (c_X5_of l D hmd hi (k := 0) (by decide)) (cwV 2 hts gX5_tellsPoint_X5_of rfl rfl rfl (by decide +kernel) ⟨by decide, by decide⟩) hK hN hP hqm rfl rfl hl.1 rfl (Nat.le_of_ble_eq_true rfl) ⟨by decide, by decide⟩ dX5_tellsPoint_59 ?_
    refine lv_asi (y := P i 0) (rfl) ?_
    exact rd_iret hx hb hr hlocks dX5_tellsPoint_62 (by simp [gPr])
  · refine lv_tableOut (tgt := 56) hx hb dX5_tellsPoint_1 (by decide) (by decide) ?_
    refine lv_aload_n hx hb dX5_tellsPoint_56 rfl (lv_at hl 0 rfl) ?_
    refine lv_iload_n hx hb dX5_tellsPoint_57 rfl (lv_at hl 1 rfl) ?_
    refine lv_iload_n hx hb dX5_tellsPoint_58 rfl (lv_at hl 2 rfl) ?_
    refine rd_callV (As := [.int (nI i), .int (nI 1)]) (rest := []) ⟨hx, hb, hml, hown, hts⟩ (c_X5_of l D hmd hi (k := 1) (by decide)) (cwV 2 hts gX5_tellsPoint_X5_of rfl rfl rfl (by decide +kernel) ⟨by decide, by decide⟩) hK hN hP hqm rfl rfl hl.1 rfl (Nat.le_of_ble_eq_true rfl) ⟨by decide, by decide⟩ dX5_tellsPoint_59 ?_
    refine lv_asi (y := P i 1) (rfl) ?_
    exact rd_iret hx hb hr hlocks dX5_tellsPoint_62 (by simp [gPr])
  · refine lv_tableOut (tgt := 56) hx hb dX5_tellsPoint_1 (by decide) (by decide) ?_
    refine lv_aload_n hx hb dX5_tellsPoint_56 rfl (lv_at hl 0 rfl) ?_
    refine lv_iload_n hx hb dX5_tellsPoint_57 rfl (lv_at hl 1 rfl) ?_
    refine lv_iload_n hx hb dX5_tellsPoint_58 rfl (lv_at hl 2 rfl) ?_
    refine rd_callV (As := [.int (nI i), .int (nI 2)]) (rest := []) ⟨hx, hb, hml, hown, hts⟩ (c_X5_of l D hmd hi (k := 2) (by decide)) (cwV 2 hts gX5_tellsPoint_X5_of rfl rfl rfl (by decide +kernel) ⟨by decide, by decide⟩) hK hN hP hqm rfl rfl hl.1 rfl (Nat.le_of_ble_eq_true rfl) ⟨by decide, by decide⟩ dX5_tellsPoint_59 ?_
    refine lv_asi (y := P i 2) (rfl) ?_
    exact rd_iret hx hb hr hlocks dX5_tellsPoint_62 (by simp [gPr])
  · refine lv_tableOut (tgt := 56) hx hb dX5_tellsPoint_1 (by decide) (by decide) ?_
    refine lv_aload_n hx hb dX5_tellsPoint_56 rfl (lv_at hl 0 rfl) ?_
    refine lv_iload_n hx hb dX5_tellsPoint_57 rfl (lv_at hl 1 rfl) ?_
    refine lv_iload_n hx hb dX5_tellsPoint_58 rfl (lv_at hl 2 rfl) ?_
    refine rd_callV (As := [.int (nI i), .int (nI 3)]) (rest := []) ⟨hx, hb, hml, hown, hts⟩ (c_X5_of l D hmd hi (k := 3) (by decide)) (cwV 2 hts gX5_tellsPoint_X5_of rfl rfl rfl (by decide +kernel) ⟨by decide, by decide⟩) hK hN hP hqm rfl rfl hl.1 rfl (Nat.le_of_ble_eq_true rfl) ⟨by decide, by decide⟩ dX5_tellsPoint_59 ?_
    refine lv_asi (y := P i 3) (rfl) ?_
    exact rd_iret hx hb hr hlocks dX5_tellsPoint_62 (by simp [gPr])
  · refine lv_tableOut (tgt := 56) hx hb dX5_tellsPoint_1 (by decide) (by decide) ?_
    refine lv_aload_n hx hb dX5_tellsPoint_56 rfl (lv_at hl 0 rfl) ?_
    refine lv_iload_n hx hb dX5_tellsPoint_57 rfl (lv_at hl 1 rfl) ?_
    refine lv_iload_n hx hb dX5_tellsPoint_58 rfl (lv_at hl 2 rfl) ?_
    refine rd_callV (As := [.int (nI i), .int (nI 4)]) (rest := []) ⟨hx, hb, hml, hown, hts⟩ (c_X5_of l D hmd hi (k := 4) (by decide)) (cwV 2 hts gX5_tellsPoint_X5_of rfl rfl rfl (by decide +kernel) ⟨by decide, by decide⟩) hK hN hP hqm rfl rfl hl.1 rfl (Nat.le_of_ble_eq_true rfl) ⟨by decide, by decide⟩ dX5_tellsPoint_59 ?_
    refine lv_asi (y := P i 4) (rfl) ?_
    exact rd_iret hx hb hr hlocks dX5_tellsPoint_62 (by simp [gPr])
  · refine lv_tableIn (tgt := 32) hx hb dX5_tellsPoint_1 (by decide) (by decide) rfl (by decide) ?_
    refine lv_aload_n hx hb dX5_tellsPoint_32 rfl (lv_at hl 0 rfl) ?_
    refine lv_iload_n hx hb dX5_tellsPoint_33 rfl (lv_at hl 1 rfl) ?_
    refine rd_callV (As := [.int (nI i)]) (rest := []) ⟨hx, hb, hml, hown, hts⟩ (c_X5_cornerOf l D hmd hi) (cwV 1 hts gX5_tellsPoint_X5_cornerOf rfl rfl rfl (by decide +kernel) ⟨by decide, by decide⟩) hK hN hP hqm rfl rfl hl.1 rfl (Nat.le_of_ble_eq_true rfl) ⟨by decide, by decide⟩ dX5_tellsPoint_34 ?_
    exact rd_iret hx hb hr hlocks dX5_tellsPoint_37 (by simp [gPr])
  · refine lv_tableIn (tgt := 38) hx hb dX5_tellsPoint_1 (by decide) (by decide) rfl (by decide) ?_
    refine lv_aload_n hx hb dX5_tellsPoint_38 rfl (lv_at hl 0 rfl) ?_
    refine lv_iload_n hx hb dX5_tellsPoint_39 rfl (lv_at hl 1 rfl) ?_
    refine rd_callV (As := [.int (nI i)]) (rest := []) ⟨hx, hb, hml, hown, hts⟩ (c_X5_openOf l D hmd hi) (cwV 1 hts gX5_tellsPoint_X5_openOf rfl rfl rfl (by decide +kernel) ⟨by decide, by decide⟩) hK hN hP hqm rfl rfl hl.1 rfl (Nat.le_of_ble_eq_true rfl) ⟨by decide, by decide⟩ dX5_tellsPoint_40 ?_
    exact rd_iret hx hb hr hlocks dX5_tellsPoint_43 (by simp [gPr])
  · refine lv_tableIn (tgt := 44) hx hb dX5_tellsPoint_1 (by decide) (by decide) rfl (by decide) ?_
    refine lv_aload_n hx hb dX5_tellsPoint_44 rfl (lv_at hl 0 rfl) ?_
    refine lv_iload_n hx hb dX5_tellsPoint_45 rfl (lv_at hl 1 rfl) ?_
    refine rd_callV (As := [.int (nI i)]) (rest := []) ⟨hx, hb, hml, hown, hts⟩ (c_X5_freeOf l D hmd hi) (cwV 1 hts gX5_tellsPoint_X5_freeOf rfl rfl rfl (by decide +kernel) ⟨by decide, by decide⟩) hK hN hP hqm rfl rfl hl.1 rfl (Nat.le_of_ble_eq_true rfl) ⟨by decide, by decide⟩ dX5_tellsPoint_46 ?_
    exact rd_iret hx hb hr hlocks dX5_tellsPoint_49 (by simp [gPr])
  · refine lv_tableIn (tgt := 50) hx hb dX5_tellsPoint_1 (by decide) (by decide) rfl (by decide) ?_
    refine lv_aload_n hx hb dX5_tellsPoint_50 rfl (lv_at hl 0 rfl) ?_
    refine lv_iload_n hx hb dX5_tellsPoint_51 rfl (lv_at hl 1 rfl) ?_
    refine rd_callV (As := [.int (nI i)]) (rest := []) ⟨hx, hb, hml, hown, hts⟩ (c_X5_crosses l D hmd hi) (cwV 1 hts gX5_tellsPoint_X5_crosses rfl rfl rfl (by decide +kernel) ⟨by decide, by decide⟩) hK hN hP hqm rfl rfl hl.1 rfl (Nat.le_of_ble_eq_true rfl) ⟨by decide, by decide⟩ dX5_tellsPoint_52 ?_
    exact rd_iret hx hb hr hlocks dX5_tellsPoint_55 (by simp [gPr])
set_option maxHeartbeats 4000000 in
set_option maxRecDepth 100000 in
theorem c_X5_tellsAt (l : Launch) (D : va_G) {w : va_W} {tys : List (ClassId × FieldType)} {om n : Nat} {P : Nat → Nat → Int32} (hmd : md_in w tys om n P) (x y : Int32) : rd_M l yX5_tellsAt wsX5_tellsAt ({ frames := 4, cells := 0, slots := 0, locals := 90 } : Room) D w tys [.ref om, .int x, .int y] (mAt n P x y) := by
  obtain ⟨qm, qs, t0, os, cI, S, fs, hqm, hfs, hqs, ht0, hn8, hS0, hS, hbk⟩ := id hmd
  refine rd_of (cc := cX5_tellsAt) (maxL := 4) (ret := some .int) (by decide) rfl (Nat.le_of_ble_eq_true rfl) ?_
  intro p e s m below meth c hx hb hr hml hts hown hlocks hP hK hN ls hl
  have hown : s.vm.findClass RX5 = some m.cls := hown
  have hl : lv_has ls 4 [(0, .ref om), (1, .int x), (2, .int y)] := hl
  have hw7 := hts (.fieldLink RX5 7 "CornerLabelsModel" "s" "[I") (by decide +kernel)
  have hinX5 : ∀ w ∈ u_ws RX5 TX5 16, w ∈ wsX5_tellsAt := by decide +kernel
  refine lv_iconst (v := 0) hx hb dX5_tellsAt_0 (by decide) ?_
  refine lv_istore_n (lv' := [(3, .int 0), (0, .ref om), (1, .int x), (2, .int y)]) hx hb dX5_tellsAt_1 rfl hl (by decide) rfl (fun ls hl => ?_)
  suffices loop2 : ∀ (k2 i : Nat) (ls : Array Slot), i ≤ n → n + 1 ≤ i + k2 → (mAt n P x y = gS n (fun i => gSt P i && gCov P i (P i 5) x y) (fun i => nI (100 + i)) (gPt n P x y) i) → lv_has ls 4 [(0, .ref om), (1, .int x), (2, .int y), (3, .int (nI i))] → rd_W p l e wsX5_tellsAt ({ frames := 4, cells := 0, slots := 0, locals := 90 } : Room) s m [.ref om, .int x, .int y] below meth c (mAt n P x y) (F0 m 2 ls []) from
    loop2 (n + 1) 0 ls (by omega) (by omega) (by rfl) (lv_sub hl [1, 2, 3, 0] rfl)
  intro k2
  induction k2 with
  | zero => intro i ls h1 h2; exact absurd h2 (by omega)
  | succ k2 ih2 =>
    intro i ls hle2 hlt2 inv2 hl
    refine lv_iload_n hx hb dX5_tellsAt_2 rfl (lv_at hl 3 rfl) ?_
    refine lv_aload_n hx hb dX5_tellsAt_3 rfl (lv_at hl 0 rfl) ?_
    refine va_get (D := D) (ci := 5) (v := .ref os) (C := RX5) (T := TX5) (N := 16) hx hb hts hinX5 hown hK hP qm hqm rfl 1 (by decide) hw7 (fun _ h9 => h9) hfs dX5_tellsAt_4 ?_
    refine lv_iconst (v := 0) hx hb dX5_tellsAt_7 (by decide) ?_
    refine rd_ald (q0 := qs) (t0 := t0) (j := 0) (v := nI n) hx hb hK hP hqs ht0 (rfl) (by omega) (by decide) (hS0) dX5_tellsAt_8 ?_
    refine rd_icmp_ge_n (a := i) (b := n) (tgt := 47) (by omega) (by omega) hx hb dX5_tellsAt_9 (by decide) (fun c_9 => ?_) (fun c_9 => ?_)
    · have c_9n := Nat.not_lt.mpr c_9
      refine lv_aload_n hx hb dX5_tellsAt_47 rfl (lv_at hl 0 rfl) ?_
      refine lv_iload_n hx hb dX5_tellsAt_48 rfl (lv_at hl 1 rfl) ?_
      refine lv_iload_n hx hb dX5_tellsAt_49 rfl (lv_at hl 2 rfl) ?_
      refine rd_callV (As := [.int x, .int y]) (rest := []) ⟨hx, hb, hml, hown, hts⟩ (c_X5_pointAt l D hmd x y) (cwV 2 hts gX5_tellsAt_X5_pointAt rfl rfl rfl (by decide +kernel) ⟨by decide, by decide⟩) hK hN hP hqm rfl rfl hl.1 rfl (Nat.le_of_ble_eq_true rfl) ⟨by decide, by decide⟩ dX5_tellsAt_50 ?_
      exact rd_iret hx hb hr hlocks dX5_tellsAt_53 (by rw [inv2, gS_end c_9])
    · have c_9n := Nat.not_le.mpr c_9
      refine lv_aload_n hx hb dX5_tellsAt_12 rfl (lv_at hl 0 rfl) ?_
      refine lv_iload_n hx hb dX5_tellsAt_13 rfl (lv_at hl 3 rfl) ?_
      refine rd_callV (As := [.int (nI i)]) (rest := []) ⟨hx, hb, hml, hown, hts⟩ (c_X5_cornerOf l D hmd c_9) (cwV 1 hts gX5_tellsAt_X5_cornerOf rfl rfl rfl (by decide +kernel) ⟨by decide, by decide⟩) hK hN hP hqm rfl rfl hl.1 rfl (Nat.le_of_ble_eq_true rfl) ⟨by decide, by decide⟩ dX5_tellsAt_14 ?_
      refine lv_iconst (v := (-1)) hx hb dX5_tellsAt_17 (by decide) ?_
      refine lv_icmp_eq (tgt := 41) hx hb dX5_tellsAt_18 (by decide) (fun c_18 => ?_) (fun c_18 => ?_)
      · refine lv_iinc (v := nI (i + 1)) (lv' := [(3, .int (nI (i + 1))), (0, .ref om), (1, .int x), (2, .int y)]) hx hb dX5_tellsAt_41 hl (k := 3) rfl (nI_add i 1) (by decide) rfl (fun ls hl => ?_)
        refine lv_goto (tgt := 2) hx hb dX5_tellsAt_44 (by decide) ?_
        exact ih2 (i + 1) ls (by omega) (by omega) (by rw [inv2, gS_step c_9]; simp [gSt, ← mHs_cov hbk c_9, bI, c_9n, c_18]) (lv_sub hl [1, 2, 3, 0] rfl)
      · refine lv_aload_n hx hb dX5_tellsAt_21 rfl (lv_at hl 0 rfl) ?_
        refine lv_iload_n hx hb dX5_tellsAt_22 rfl (lv_at hl 3 rfl) ?_
        refine lv_aload_n hx hb dX5_tellsAt_23 rfl (lv_at hl 0 rfl) ?_
        refine lv_iload_n hx hb dX5_tellsAt_24 rfl (lv_at hl 3 rfl) ?_
        refine rd_callV (As := [.int (nI i)]) (rest := [.int (nI i), .ref om]) ⟨hx, hb, hml, hown, hts⟩ (c_X5_cornerOf l D hmd c_9) (cwV 1 hts gX5_tellsAt_X5_cornerOf rfl rfl rfl (by decide +kernel) ⟨by decide, by decide⟩) hK hN hP hqm rfl rfl hl.1 rfl (Nat.le_of_ble_eq_true rfl) ⟨by decide, by decide⟩ dX5_tellsAt_25 ?_
        refine lv_iload_n hx hb dX5_tellsAt_28 rfl (lv_at hl 1 rfl) ?_
        refine lv_iload_n hx hb dX5_tellsAt_29 rfl (lv_at hl 2 rfl) ?_
        refine rd_callV (As := [.int (nI i), .int (P i 5), .int x, .int y]) (rest := []) ⟨hx, hb, hml, hown, hts⟩ (c_X5_has l D hmd c_9 (bd_ok4 hbk c_9 c_18) x y) (cwV 4 hts gX5_tellsAt_X5_has rfl rfl rfl (by decide +kernel) ⟨by decide, by decide⟩) hK hN hP hqm rfl rfl hl.1 rfl (Nat.le_of_ble_eq_true rfl) ⟨by decide, by decide⟩ dX5_tellsAt_30 ?_
        refine rd_ifeq_b (tgt := 41) hx hb dX5_tellsAt_33 (by decide) (fun c_33 => ?_) (fun c_33 => ?_)
        · refine lv_iinc (v := nI (i + 1)) (lv' := [(3, .int (nI (i + 1))), (0, .ref om), (1, .int x), (2, .int y)]) hx hb dX5_tellsAt_41 hl (k := 3) rfl (nI_add i 1) (by decide) rfl (fun ls hl => ?_)
          refine lv_goto (tgt := 2) hx hb dX5_tellsAt_44 (by decide) ?_
          exact ih2 (i + 1) ls (by omega) (by omega) (by rw [inv2, gS_step c_9]; simp [gSt, ← mHs_cov hbk c_9, bI, c_9n, c_18, c_33]) (lv_sub hl [1, 2, 3, 0] rfl)
        · refine lv_bipush (v := 100) hx hb dX5_tellsAt_36 (by decide) ?_
          refine lv_iload_n hx hb dX5_tellsAt_38 rfl (lv_at hl 3 rfl) ?_
          refine lv_iadd hx hb dX5_tellsAt_39 ?_
          refine lv_asi (y := nI (100 + i)) (nI_add 100 i) ?_
          exact rd_iret hx hb hr hlocks dX5_tellsAt_40 (by rw [inv2, gS_step c_9]; simp [gSt, ← mHs_cov hbk c_9, bI, c_9n, c_18, c_33])
set_option maxHeartbeats 4000000 in
set_option maxRecDepth 100000 in
theorem c_X5_squares (l : Launch) (D : va_G) {w : va_W} {tys : List (ClassId × FieldType)} {om n : Nat} {P : Nat → Nat → Int32} (hmd : md_in w tys om n P) : rd_M l yX5_squares wsX5_squares ({ frames := 2, cells := 0, slots := 0, locals := 43 } : Room) D w tys [.ref om] (gSQ n P) := by
  obtain ⟨qm, qs, t0, os, cI, S, fs, hqm, hfs, hqs, ht0, hn8, hS0, hS, hbk⟩ := id hmd
  refine rd_of (cc := cX5_squares) (maxL := 3) (ret := some .int) (by decide) rfl (Nat.le_of_ble_eq_true rfl) ?_
  intro p e s m below meth c hx hb hr hml hts hown hlocks hP hK hN ls hl
  have hown : s.vm.findClass RX5 = some m.cls := hown
  have hl : lv_has ls 3 [(0, .ref om)] := hl
  have hw7 := hts (.fieldLink RX5 7 "CornerLabelsModel" "s" "[I") (by decide +kernel)
  have hinX5 : ∀ w ∈ u_ws RX5 TX5 16, w ∈ wsX5_squares := by decide +kernel
  refine lv_iconst (v := 0) hx hb dX5_squares_0 (by decide) ?_
  refine lv_istore_n (lv' := [(1, .int 0), (0, .ref om)]) hx hb dX5_squares_1 rfl hl (by decide) rfl (fun ls hl => ?_)
  refine lv_iconst (v := 0) hx hb dX5_squares_2 (by decide) ?_
  refine lv_istore_n (lv' := [(2, .int 0), (1, .int 0), (0, .ref om)]) hx hb dX5_squares_3 rfl hl (by decide) rfl (fun ls hl => ?_)
  suffices loop4 : ∀ (k4 i : Nat) (a : Int32) (ls : Array Slot), i ≤ n → n + 1 ≤ i + k4 → (gSQ n P = gF n (gSQF P) i a) → lv_has ls 3 [(0, .ref om), (1, .int a), (2, .int (nI i))] → rd_W p l e wsX5_squares ({ frames := 2, cells := 0, slots := 0, locals := 43 } : Room) s m [.ref om] below meth c (gSQ n P) (F0 m 4 ls []) from
    loop4 (n + 1) 0 0 ls (by omega) (by omega) (by rfl) (lv_sub hl [2, 1, 0] rfl)
  intro k4
  induction k4 with
  | zero => intro i a ls h1 h2; exact absurd h2 (by omega)
  | succ k4 ih4 =>
    intro i a ls hle4 hlt4 inv4 hl
    refine lv_iload_n hx hb dX5_squares_4 rfl (lv_at hl 2 rfl) ?_
    refine lv_aload_n hx hb dX5_squares_5 rfl (lv_at hl 0 rfl) ?_
    refine va_get (D := D) (ci := 5) (v := .ref os) (C := RX5) (T := TX5) (N := 16) hx hb hts hinX5 hown hK hP qm hqm rfl 1 (by decide) hw7 (fun _ h9 => h9) hfs dX5_squares_6 ?_
    refine lv_iconst (v := 0) hx hb dX5_squares_9 (by decide) ?_
    refine rd_ald (q0 := qs) (t0 := t0) (j := 0) (v := nI n) hx hb hK hP hqs ht0 (rfl) (by omega) (by decide) (hS0) dX5_squares_10 ?_
    refine rd_icmp_ge_n (a := i) (b := n) (tgt := 49) (by omega) (by omega) hx hb dX5_squares_11 (by decide) (fun c_11 => ?_) (fun c_11 => ?_)
    · have c_11n := Nat.not_lt.mpr c_11
      refine lv_iload_n hx hb dX5_squares_49 rfl (lv_at hl 1 rfl) ?_
      exact rd_iret hx hb hr hlocks dX5_squares_50 (by rw [inv4, gF_end c_11])
    · have c_11n := Nat.not_le.mpr c_11
      refine lv_iload_n hx hb dX5_squares_14 rfl (lv_at hl 1 rfl) ?_
      refine lv_aload_n hx hb dX5_squares_15 rfl (lv_at hl 0 rfl) ?_
      refine lv_iload_n hx hb dX5_squares_16 rfl (lv_at hl 2 rfl) ?_
      refine rd_callV (As := [.int (nI i)]) (rest := [.int a]) ⟨hx, hb, hml, hown, hts⟩ (c_X5_cornerOf l D hmd c_11) (cwV 1 hts gX5_squares_X5_cornerOf rfl rfl rfl (by decide +kernel) ⟨by decide, by decide⟩) hK hN hP hqm rfl rfl hl.1 rfl (Nat.le_of_ble_eq_true rfl) ⟨by decide, by decide⟩ dX5_squares_17 ?_
      refine lv_iconst (v := (-1)) hx hb dX5_squares_20 (by decide) ?_
      refine lv_icmp_ne (tgt := 28) hx hb dX5_squares_21 (by decide) (fun c_21 => ?_) (fun c_21 => ?_)
      · refine lv_aload_n hx hb dX5_squares_28 rfl (lv_at hl 0 rfl) ?_
        refine lv_iload_n hx hb dX5_squares_29 rfl (lv_at hl 2 rfl) ?_
        refine lv_iconst (v := 2) hx hb dX5_squares_30 (by decide) ?_
        refine rd_callV (As := [.int (nI i), .int 2]) (rest := [.int a]) ⟨hx, hb, hml, hown, hts⟩ (c_X5_of l D hmd c_11 (k := 2) (by decide)) (cwV 2 hts gX5_squares_X5_of rfl rfl rfl (by decide +kernel) ⟨by decide, by decide⟩) hK hN hP hqm rfl rfl hl.1 rfl (Nat.le_of_ble_eq_true rfl) ⟨by decide, by decide⟩ dX5_squares_31 ?_
        refine lv_asi (y := P i 2) (rfl) ?_
        refine lv_aload_n hx hb dX5_squares_34 rfl (lv_at hl 0 rfl) ?_
        refine lv_iload_n hx hb dX5_squares_35 rfl (lv_at hl 2 rfl) ?_
        refine lv_iconst (v := 3) hx hb dX5_squares_36 (by decide) ?_
        refine rd_callV (As := [.int (nI i), .int 3]) (rest := [.int (P i 2), .int a]) ⟨hx, hb, hml, hown, hts⟩ (c_X5_of l D hmd c_11 (k := 3) (by decide)) (cwV 2 hts gX5_squares_X5_of rfl rfl rfl (by decide +kernel) ⟨by decide, by decide⟩) hK hN hP hqm rfl rfl hl.1 rfl (Nat.le_of_ble_eq_true rfl) ⟨by decide, by decide⟩ dX5_squares_37 ?_
        refine lv_asi (y := P i 3) (rfl) ?_
        refine lv_imul hx hb dX5_squares_40 ?_
        refine lv_iadd hx hb dX5_squares_41 ?_
        refine lv_istore_n (lv' := [(1, .int (a + ((P i 2) * (P i 3)))), (0, .ref om), (2, .int (nI i))]) hx hb dX5_squares_42 rfl hl (by decide) rfl (fun ls hl => ?_)
        refine lv_iinc (v := nI (i + 1)) (lv' := [(2, .int (nI (i + 1))), (1, .int (a + ((P i 2) * (P i 3)))), (0, .ref om)]) hx hb dX5_squares_43 hl (k := 2) rfl (nI_add i 1) (by decide) rfl (fun ls hl => ?_)
        refine lv_goto (tgt := 4) hx hb dX5_squares_46 (by decide) ?_
        exact ih4 (i + 1) (a + ((P i 2) * (P i 3))) ls (by omega) (by omega) (by rw [inv4, gF_step c_11]; simp [gSQF, gSt, bI, c_11n, c_21]) (lv_sub hl [2, 1, 0] rfl)
      · refine lv_iconst (v := 0) hx hb dX5_squares_24 (by decide) ?_
        refine lv_goto (tgt := 41) hx hb dX5_squares_25 (by decide) ?_
        refine lv_iadd hx hb dX5_squares_41 ?_
        refine lv_istore_n (lv' := [(1, .int (a + 0)), (0, .ref om), (2, .int (nI i))]) hx hb dX5_squares_42 rfl hl (by decide) rfl (fun ls hl => ?_)
        refine lv_iinc (v := nI (i + 1)) (lv' := [(2, .int (nI (i + 1))), (1, .int (a + 0)), (0, .ref om)]) hx hb dX5_squares_43 hl (k := 2) rfl (nI_add i 1) (by decide) rfl (fun ls hl => ?_)
        refine lv_goto (tgt := 4) hx hb dX5_squares_46 (by decide) ?_
        exact ih4 (i + 1) (a + 0) ls (by omega) (by omega) (by rw [inv4, gF_step c_11]; simp [gSQF, gSt, bI, c_11n, c_21]) (lv_sub hl [2, 1, 0] rfl)
set_option maxHeartbeats 4000000 in
set_option maxRecDepth 100000 in
theorem c_X5_closedMany (l : Launch) (D : va_G) {w : va_W} {tys : List (ClassId × FieldType)} {om n : Nat} {P : Nat → Nat → Int32} (hmd : md_in w tys om n P) : rd_M l yX5_closedMany wsX5_closedMany ({ frames := 6, cells := 0, slots := 0, locals := 137 } : Room) D w tys [.ref om] (gWO n P) := by
  obtain ⟨qm, qs, t0, os, cI, S, fs, hqm, hfs, hqs, ht0, hn8, hS0, hS, hbk⟩ := id hmd
  refine rd_of (cc := cX5_closedMany) (maxL := 3) (ret := some .int) (by decide) rfl (Nat.le_of_ble_eq_true rfl) ?_
  intro p e s m below meth c hx hb hr hml hts hown hlocks hP hK hN ls hl
  have hown : s.vm.findClass RX5 = some m.cls := hown
  have hl : lv_has ls 3 [(0, .ref om)] := hl
  have hw7 := hts (.fieldLink RX5 7 "CornerLabelsModel" "s" "[I") (by decide +kernel)
  have hinX5 : ∀ w ∈ u_ws RX5 TX5 16, w ∈ wsX5_closedMany := by decide +kernel
  refine lv_iconst (v := 0) hx hb dX5_closedMany_0 (by decide) ?_
  refine lv_istore_n (lv' := [(1, .int 0), (0, .ref om)]) hx hb dX5_closedMany_1 rfl hl (by decide) rfl (fun ls hl => ?_)
  refine lv_iconst (v := 0) hx hb dX5_closedMany_2 (by decide) ?_
  refine lv_istore_n (lv' := [(2, .int 0), (1, .int 0), (0, .ref om)]) hx hb dX5_closedMany_3 rfl hl (by decide) rfl (fun ls hl => ?_)
  suffices loop4 : ∀ (k4 i : Nat) (a : Int32) (ls : Array Slot), i ≤ n → n + 1 ≤ i + k4 → (gWO n P = gF n (gWOF n P) i a) → lv_has ls 3 [(0, .ref om), (1, .int a), (2, .int (nI i))] → rd_W p l e wsX5_closedMany ({ frames := 6, cells := 0, slots := 0, locals := 137 } : Room) s m [.ref om] below meth c (gWO n P) (F0 m 4 ls []) from
    loop4 (n + 1) 0 0 ls (by omega) (by omega) (by rfl) (lv_sub hl [2, 1, 0] rfl)
  intro k4
  induction k4 with
  | zero => intro i a ls h1 h2; exact absurd h2 (by omega)
  | succ k4 ih4 =>
    intro i a ls hle4 hlt4 inv4 hl
    refine lv_iload_n hx hb dX5_closedMany_4 rfl (lv_at hl 2 rfl) ?_
    refine lv_aload_n hx hb dX5_closedMany_5 rfl (lv_at hl 0 rfl) ?_
    refine va_get (D := D) (ci := 5) (v := .ref os) (C := RX5) (T := TX5) (N := 16) hx hb hts hinX5 hown hK hP qm hqm rfl 1 (by decide) hw7 (fun _ h9 => h9) hfs dX5_closedMany_6 ?_
    refine lv_iconst (v := 0) hx hb dX5_closedMany_9 (by decide) ?_
    refine rd_ald (q0 := qs) (t0 := t0) (j := 0) (v := nI n) hx hb hK hP hqs ht0 (rfl) (by omega) (by decide) (hS0) dX5_closedMany_10 ?_
    refine rd_icmp_ge_n (a := i) (b := n) (tgt := 36) (by omega) (by omega) hx hb dX5_closedMany_11 (by decide) (fun c_11 => ?_) (fun c_11 => ?_)
    · have c_11n := Nat.not_lt.mpr c_11
      refine lv_iload_n hx hb dX5_closedMany_36 rfl (lv_at hl 1 rfl) ?_
      exact rd_iret hx hb hr hlocks dX5_closedMany_37 (by rw [inv4, gF_end c_11])
    · have c_11n := Nat.not_le.mpr c_11
      refine lv_iload_n hx hb dX5_closedMany_14 rfl (lv_at hl 1 rfl) ?_
      refine lv_aload_n hx hb dX5_closedMany_15 rfl (lv_at hl 0 rfl) ?_
      refine lv_iload_n hx hb dX5_closedMany_16 rfl (lv_at hl 2 rfl) ?_
      refine rd_callV (As := [.int (nI i)]) (rest := [.int a]) ⟨hx, hb, hml, hown, hts⟩ (c_X5_openOf l D hmd c_11) (cwV 1 hts gX5_closedMany_X5_openOf rfl rfl rfl (by decide +kernel) ⟨by decide, by decide⟩) hK hN hP hqm rfl rfl hl.1 rfl (Nat.le_of_ble_eq_true rfl) ⟨by decide, by decide⟩ dX5_closedMany_17 ?_
      refine lv_if_ne (tgt := 27) hx hb dX5_closedMany_20 (by decide) (fun c_20 => ?_) (fun c_20 => ?_)
      · refine lv_iconst (v := 0) hx hb dX5_closedMany_27 (by decide) ?_
        refine lv_iadd hx hb dX5_closedMany_28 ?_
        refine lv_istore_n (lv' := [(1, .int (a + 0)), (0, .ref om), (2, .int (nI i))]) hx hb dX5_closedMany_29 rfl hl (by decide) rfl (fun ls hl => ?_)
        refine lv_iinc (v := nI (i + 1)) (lv' := [(2, .int (nI (i + 1))), (1, .int (a + 0)), (0, .ref om)]) hx hb dX5_closedMany_30 hl (k := 2) rfl (nI_add i 1) (by decide) rfl (fun ls hl => ?_)
        refine lv_goto (tgt := 4) hx hb dX5_closedMany_33 (by decide) ?_
        exact ih4 (i + 1) (a + 0) ls (by omega) (by omega) (by rw [inv4, gF_step c_11]; simp [gWOF, bI, c_11n, c_20]) (lv_sub hl [2, 1, 0] rfl)
      · refine lv_iconst (v := 1) hx hb dX5_closedMany_23 (by decide) ?_
        refine lv_goto (tgt := 28) hx hb dX5_closedMany_24 (by decide) ?_
        refine lv_iadd hx hb dX5_closedMany_28 ?_
        refine lv_istore_n (lv' := [(1, .int (a + 1)), (0, .ref om), (2, .int (nI i))]) hx hb dX5_closedMany_29 rfl hl (by decide) rfl (fun ls hl => ?_)
        refine lv_iinc (v := nI (i + 1)) (lv' := [(2, .int (nI (i + 1))), (1, .int (a + 1)), (0, .ref om)]) hx hb dX5_closedMany_30 hl (k := 2) rfl (nI_add i 1) (by decide) rfl (fun ls hl => ?_)
        refine lv_goto (tgt := 4) hx hb dX5_closedMany_33 (by decide) ?_
        exact ih4 (i + 1) (a + 1) ls (by omega) (by omega) (by rw [inv4, gF_step c_11]; simp [gWOF, bI, c_11n, c_20]) (lv_sub hl [2, 1, 0] rfl)
set_option maxHeartbeats 4000000 in
set_option maxRecDepth 100000 in
theorem c_X5_crossed (l : Launch) (D : va_G) {w : va_W} {tys : List (ClassId × FieldType)} {om n : Nat} {P : Nat → Nat → Int32} (hmd : md_in w tys om n P) : rd_M l yX5_crossed wsX5_crossed ({ frames := 4, cells := 0, slots := 0, locals := 91 } : Room) D w tys [.ref om] (gCD n P) := by
  obtain ⟨qm, qs, t0, os, cI, S, fs, hqm, hfs, hqs, ht0, hn8, hS0, hS, hbk⟩ := id hmd
  refine rd_of (cc := cX5_crossed) (maxL := 3) (ret := some .int) (by decide) rfl (Nat.le_of_ble_eq_true rfl) ?_
  intro p e s m below meth c hx hb hr hml hts hown hlocks hP hK hN ls hl
  have hown : s.vm.findClass RX5 = some m.cls := hown
  have hl : lv_has ls 3 [(0, .ref om)] := hl
  have hw7 := hts (.fieldLink RX5 7 "CornerLabelsModel" "s" "[I") (by decide +kernel)
  have hinX5 : ∀ w ∈ u_ws RX5 TX5 16, w ∈ wsX5_crossed := by decide +kernel
  refine lv_iconst (v := 0) hx hb dX5_crossed_0 (by decide) ?_
  refine lv_istore_n (lv' := [(1, .int 0), (0, .ref om)]) hx hb dX5_crossed_1 rfl hl (by decide) rfl (fun ls hl => ?_)
  refine lv_iconst (v := 0) hx hb dX5_crossed_2 (by decide) ?_
  refine lv_istore_n (lv' := [(2, .int 0), (1, .int 0), (0, .ref om)]) hx hb dX5_crossed_3 rfl hl (by decide) rfl (fun ls hl => ?_)
  suffices loop4 : ∀ (k4 i : Nat) (a : Int32) (ls : Array Slot), i ≤ n → n + 1 ≤ i + k4 → (gCD n P = gF n (gCDF n P) i a) → lv_has ls 3 [(0, .ref om), (1, .int a), (2, .int (nI i))] → rd_W p l e wsX5_crossed ({ frames := 4, cells := 0, slots := 0, locals := 91 } : Room) s m [.ref om] below meth c (gCD n P) (F0 m 4 ls []) from
    loop4 (n + 1) 0 0 ls (by omega) (by omega) (by rfl) (lv_sub hl [2, 1, 0] rfl)
  intro k4
  induction k4 with
  | zero => intro i a ls h1 h2; exact absurd h2 (by omega)
  | succ k4 ih4 =>
    intro i a ls hle4 hlt4 inv4 hl
    refine lv_iload_n hx hb dX5_crossed_4 rfl (lv_at hl 2 rfl) ?_
    refine lv_aload_n hx hb dX5_crossed_5 rfl (lv_at hl 0 rfl) ?_
    refine va_get (D := D) (ci := 5) (v := .ref os) (C := RX5) (T := TX5) (N := 16) hx hb hts hinX5 hown hK hP qm hqm rfl 1 (by decide) hw7 (fun _ h9 => h9) hfs dX5_crossed_6 ?_
    refine lv_iconst (v := 0) hx hb dX5_crossed_9 (by decide) ?_
    refine rd_ald (q0 := qs) (t0 := t0) (j := 0) (v := nI n) hx hb hK hP hqs ht0 (rfl) (by omega) (by decide) (hS0) dX5_crossed_10 ?_
    refine rd_icmp_ge_n (a := i) (b := n) (tgt := 41) (by omega) (by omega) hx hb dX5_crossed_11 (by decide) (fun c_11 => ?_) (fun c_11 => ?_)
    · have c_11n := Nat.not_lt.mpr c_11
      refine lv_iload_n hx hb dX5_crossed_41 rfl (lv_at hl 1 rfl) ?_
      exact rd_iret hx hb hr hlocks dX5_crossed_42 (by rw [inv4, gF_end c_11])
    · have c_11n := Nat.not_le.mpr c_11
      refine lv_iload_n hx hb dX5_crossed_14 rfl (lv_at hl 1 rfl) ?_
      refine lv_aload_n hx hb dX5_crossed_15 rfl (lv_at hl 0 rfl) ?_
      refine lv_iload_n hx hb dX5_crossed_16 rfl (lv_at hl 2 rfl) ?_
      refine rd_callV (As := [.int (nI i)]) (rest := [.int a]) ⟨hx, hb, hml, hown, hts⟩ (c_X5_cornerOf l D hmd c_11) (cwV 1 hts gX5_crossed_X5_cornerOf rfl rfl rfl (by decide +kernel) ⟨by decide, by decide⟩) hK hN hP hqm rfl rfl hl.1 rfl (Nat.le_of_ble_eq_true rfl) ⟨by decide, by decide⟩ dX5_crossed_17 ?_
      refine lv_iconst (v := (-1)) hx hb dX5_crossed_20 (by decide) ?_
      refine lv_icmp_ne (tgt := 32) hx hb dX5_crossed_21 (by decide) (fun c_21 => ?_) (fun c_21 => ?_)
      · refine lv_iconst (v := 0) hx hb dX5_crossed_32 (by decide) ?_
        refine lv_iadd hx hb dX5_crossed_33 ?_
        refine lv_istore_n (lv' := [(1, .int (a + 0)), (0, .ref om), (2, .int (nI i))]) hx hb dX5_crossed_34 rfl hl (by decide) rfl (fun ls hl => ?_)
        refine lv_iinc (v := nI (i + 1)) (lv' := [(2, .int (nI (i + 1))), (1, .int (a + 0)), (0, .ref om)]) hx hb dX5_crossed_35 hl (k := 2) rfl (nI_add i 1) (by decide) rfl (fun ls hl => ?_)
        refine lv_goto (tgt := 4) hx hb dX5_crossed_38 (by decide) ?_
        exact ih4 (i + 1) (a + 0) ls (by omega) (by omega) (by rw [inv4, gF_step c_11]; simp [gCDF, gSt, bI, c_11n, c_21]) (lv_sub hl [2, 1, 0] rfl)
      · refine lv_aload_n hx hb dX5_crossed_24 rfl (lv_at hl 0 rfl) ?_
        refine lv_iload_n hx hb dX5_crossed_25 rfl (lv_at hl 2 rfl) ?_
        refine rd_callV (As := [.int (nI i)]) (rest := [.int a]) ⟨hx, hb, hml, hown, hts⟩ (c_X5_crosses l D hmd c_11) (cwV 1 hts gX5_crossed_X5_crosses rfl rfl rfl (by decide +kernel) ⟨by decide, by decide⟩) hK hN hP hqm rfl rfl hl.1 rfl (Nat.le_of_ble_eq_true rfl) ⟨by decide, by decide⟩ dX5_crossed_26 ?_
        refine lv_goto (tgt := 33) hx hb dX5_crossed_29 (by decide) ?_
        refine lv_iadd hx hb dX5_crossed_33 ?_
        refine lv_istore_n (lv' := [(1, .int (a + (gCr n P i))), (0, .ref om), (2, .int (nI i))]) hx hb dX5_crossed_34 rfl hl (by decide) rfl (fun ls hl => ?_)
        refine lv_iinc (v := nI (i + 1)) (lv' := [(2, .int (nI (i + 1))), (1, .int (a + (gCr n P i))), (0, .ref om)]) hx hb dX5_crossed_35 hl (k := 2) rfl (nI_add i 1) (by decide) rfl (fun ls hl => ?_)
        refine lv_goto (tgt := 4) hx hb dX5_crossed_38 (by decide) ?_
        exact ih4 (i + 1) (a + (gCr n P i)) ls (by omega) (by omega) (by rw [inv4, gF_step c_11]; simp [gCDF, gSt, bI, c_11n, c_21]) (lv_sub hl [2, 1, 0] rfl)
