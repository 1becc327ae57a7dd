/-! the numbers written in the class -/
theorem tic_0 : (0 : Int32).toInt = 0 := by decide
theorem tic_1 : (1 : Int32).toInt = 1 := by decide
theorem tic_3 : (3 : Int32).toInt = 3 := by decide
theorem tic_4 : (4 : Int32).toInt = 4 := by decide
theorem tic_8 : (8 : Int32).toInt = 8 := by decide
theorem tic_9 : (9 : Int32).toInt = 9 := by decide
theorem tic_20 : (20 : Int32).toInt = 20 := by decide
theorem tic_33 : (33 : Int32).toInt = 33 := by decide
theorem tic_39 : (39 : Int32).toInt = 39 := by decide
theorem tic_40 : (40 : Int32).toInt = 40 := by decide
theorem tic_59 : (59 : Int32).toInt = 59 := by decide
theorem tic_60 : (60 : Int32).toInt = 60 := by decide
theorem tic_99 : (99 : Int32).toInt = 99 := by decide
theorem tic_126 : (126 : Int32).toInt = 126 := by decide
theorem bI_1of {b : Bool} (h : b = true) : (1 : Int32) = bI b := by rw [h]; rfl
theorem bI_0of {b : Bool} (h : b = false) : (0 : Int32) = bI b := by rw [h]; rfl
theorem mIn_t {v a b : Int32} (h1 : a ≤ v) (h2 : v ≤ b) : mIn v a b = true := decide_eq_true ⟨h1, h2⟩
theorem mIn_lo {v a b : Int32} (h : v < a) : mIn v a b = false := decide_eq_false (fun q => Int32.not_le.mpr h q.1)
theorem mIn_hi {v a b : Int32} (h : b < v) : mIn v a b = false := decide_eq_false (fun q => Int32.not_le.mpr h q.2)
theorem le_59 {x : Int32} (h : x < 60) : x ≤ 59 := by rw [Int32.lt_iff_toInt_lt, tic_60] at h; rw [Int32.le_iff_toInt_le, tic_59]; omega
theorem le_39 {x : Int32} (h : x < 40) : x ≤ 39 := by rw [Int32.lt_iff_toInt_lt, tic_40] at h; rw [Int32.le_iff_toInt_le, tic_39]; omega
theorem le_3 {x : Int32} (h : x < 4) : x ≤ 3 := by rw [Int32.lt_iff_toInt_lt, tic_4] at h; rw [Int32.le_iff_toInt_le, tic_3]; omega
theorem gt_59 {x : Int32} (h : 60 ≤ x) : 59 < x := by rw [Int32.le_iff_toInt_le, tic_60] at h; rw [Int32.lt_iff_toInt_lt, tic_59]; omega
theorem gt_39 {x : Int32} (h : 40 ≤ x) : 39 < x := by rw [Int32.le_iff_toInt_le, tic_40] at h; rw [Int32.lt_iff_toInt_lt, tic_39]; omega
theorem gt_3 {x : Int32} (h : 4 ≤ x) : 3 < x := by rw [Int32.le_iff_toInt_le, tic_4] at h; rw [Int32.lt_iff_toInt_lt, tic_3]; omega
def bCt (a : Int32) : Int32 := (((((((a - (((a.toUInt32 >>> ((1 : Int32).toUInt32 &&& Int32.toUInt32 31)).toInt32) &&& 1431655765)) &&& 858993459) + ((((a - (((a.toUInt32 >>> ((1 : Int32).toUInt32 &&& Int32.toUInt32 31)).toInt32) &&& 1431655765)).toUInt32 >>> ((2 : Int32).toUInt32 &&& Int32.toUInt32 31)).toInt32) &&& 858993459)) + (((((a - (((a.toUInt32 >>> ((1 : Int32).toUInt32 &&& Int32.toUInt32 31)).toInt32) &&& 1431655765)) &&& 858993459) + ((((a - (((a.toUInt32 >>> ((1 : Int32).toUInt32 &&& Int32.toUInt32 31)).toInt32) &&& 1431655765)).toUInt32 >>> ((2 : Int32).toUInt32 &&& Int32.toUInt32 31)).toInt32) &&& 858993459)).toUInt32 >>> ((4 : Int32).toUInt32 &&& Int32.toUInt32 31)).toInt32)) &&& 252645135) + (((((((a - (((a.toUInt32 >>> ((1 : Int32).toUInt32 &&& Int32.toUInt32 31)).toInt32) &&& 1431655765)) &&& 858993459) + ((((a - (((a.toUInt32 >>> ((1 : Int32).toUInt32 &&& Int32.toUInt32 31)).toInt32) &&& 1431655765)).toUInt32 >>> ((2 : Int32).toUInt32 &&& Int32.toUInt32 31)).toInt32) &&& 858993459)) + (((((a - (((a.toUInt32 >>> ((1 : Int32).toUInt32 &&& Int32.toUInt32 31)).toInt32) &&& 1431655765)) &&& 858993459) + ((((a - (((a.toUInt32 >>> ((1 : Int32).toUInt32 &&& Int32.toUInt32 31)).toInt32) &&& 1431655765)).toUInt32 >>> ((2 : Int32).toUInt32 &&& Int32.toUInt32 31)).toInt32) &&& 858993459)).toUInt32 >>> ((4 : Int32).toUInt32 &&& Int32.toUInt32 31)).toInt32)) &&& 252645135).toUInt32 >>> ((8 : Int32).toUInt32 &&& Int32.toUInt32 31)).toInt32)) + ((((((((a - (((a.toUInt32 >>> ((1 : Int32).toUInt32 &&& Int32.toUInt32 31)).toInt32) &&& 1431655765)) &&& 858993459) + ((((a - (((a.toUInt32 >>> ((1 : Int32).toUInt32 &&& Int32.toUInt32 31)).toInt32) &&& 1431655765)).toUInt32 >>> ((2 : Int32).toUInt32 &&& Int32.toUInt32 31)).toInt32) &&& 858993459)) + (((((a - (((a.toUInt32 >>> ((1 : Int32).toUInt32 &&& Int32.toUInt32 31)).toInt32) &&& 1431655765)) &&& 858993459) + ((((a - (((a.toUInt32 >>> ((1 : Int32).toUInt32 &&& Int32.toUInt32 31)).toInt32) &&& 1431655765)).toUInt32 >>> ((2 : Int32).toUInt32 &&& Int32.toUInt32 31)).toInt32) &&& 858993459)).toUInt32 >>> ((4 : Int32).toUInt32 &&& Int32.toUInt32 31)).toInt32)) &&& 252645135) + (((((((a - (((a.toUInt32 >>> ((1 : Int32).toUInt32 &&& Int32.toUInt32 31)).toInt32) &&& 1431655765)) &&& 858993459) + ((((a - (((a.toUInt32 >>> ((1 : Int32).toUInt32 &&& Int32.toUInt32 31)).toInt32) &&& 1431655765)).toUInt32 >>> ((2 : Int32).toUInt32 &&& Int32.toUInt32 31)).toInt32) &&& 858993459)) + (((((a - (((a.toUInt32 >>> ((1 : Int32).toUInt32 &&& Int32.toUInt32 31)).toInt32) &&& 1431655765)) &&& 858993459) + ((((a - (((a.toUInt32 >>> ((1 : Int32).toUInt32 &&& Int32.toUInt32 31)).toInt32) &&& 1431655765)).toUInt32 >>> ((2 : Int32).toUInt32 &&& Int32.toUInt32 31)).toInt32) &&& 858993459)).toUInt32 >>> ((4 : Int32).toUInt32 &&& Int32.toUInt32 31)).toInt32)) &&& 252645135).toUInt32 >>> ((8 : Int32).toUInt32 &&& Int32.toUInt32 31)).toInt32)).toUInt32 >>> ((16 : Int32).toUInt32 &&& Int32.toUInt32 31)).toInt32)) &&& 63
theorem bCt_16 : ∀ m, m < 16 → bCt (nI m) = mOnes (nI m) := by decide +kernel
theorem gMk_b4 : ∀ o0 o1 o2 o3 : Bool, ∃ m, m < 16 ∧ (let m0 := if o0 then (0 : Int32) ||| gBit 0 else 0
     let m1 := if o1 then m0 ||| gBit 1 else m0
     let m2 := if o2 then m1 ||| gBit 2 else m1
     if o3 then m2 ||| gBit 3 else m2) = nI m := by
  intro o0 o1 o2 o3
  cases o0 <;> cases o1 <;> cases o2 <;> cases o3
  · exact ⟨0, by decide, by decide⟩
  · exact ⟨8, by decide, by decide⟩
  · exact ⟨4, by decide, by decide⟩
  · exact ⟨12, by decide, by decide⟩
  · exact ⟨2, by decide, by decide⟩
  · exact ⟨10, by decide, by decide⟩
  · exact ⟨6, by decide, by decide⟩
  · exact ⟨14, by decide, by decide⟩
  · exact ⟨1, by decide, by decide⟩
  · exact ⟨9, by decide, by decide⟩
  · exact ⟨5, by decide, by decide⟩
  · exact ⟨13, by decide, by decide⟩
  · exact ⟨3, by decide, by decide⟩
  · exact ⟨11, by decide, by decide⟩
  · exact ⟨7, by decide, by decide⟩
  · exact ⟨15, by decide, by decide⟩
theorem bCt_gMk (n : Nat) (P : Nat → Nat → Int32) (i : Nat) : bCt (gMk n P i) = mOnes (gMk n P i) := by
  obtain ⟨m, hm, e⟩ := gMk_b4 (gOp n P i (nI 0)) (gOp n P i (nI 1)) (gOp n P i (nI 2)) (gOp n P i (nI 3))
  have e2 : gMk n P i = nI m := e
  rw [e2]
  exact bCt_16 m hm
abbrev E0 : va_W := []
set_option maxHeartbeats 4000000 in
set_option maxRecDepth 100000 in
theorem c_X0_has (l : Launch) (D : va_G) {w : va_W} {tys : List (ClassId × FieldType)} {ob n : Nat} {P : Nat → Nat → Int32} (hbd : bd_in w tys ob n P) (x : Int32) : rd_M l yX0_has wsX0_has ({ frames := 0, cells := 0, slots := 0, locals := 0 } : Room) D w tys [.ref ob, .int x] (bI (gHas n x)) := by
  obtain ⟨qb, qc, t0, oc, cI, f, hqb, hqc, ht0, hn8, hf⟩ := id hbd
  refine rd_of (cc := cX0_has) (maxL := 2) (ret := some .boolean) (by decide) rfl (Nat.le_of_ble_eq_true rfl) ?_
  intro p e s m below meth c hx hb hr hml hts hown hlocks hP hK hN ls hl
  have hown : s.vm.findClass RX0 = some m.cls := hown
  have hl : lv_has ls 2 [(0, .ref ob), (1, .int x)] := hl
  have hw15 := hts (.fieldLink RX0 15 "CornerLabels$Board" "points" "I") (by decide +kernel)
  have hinX0 : ∀ w ∈ u_ws RX0 TX0 2, w ∈ wsX0_has := by decide +kernel
  refine lv_iload_n hx hb dX0_has_0 rfl (lv_at hl 1 rfl) ?_
  refine lv_if_lt (tgt := 16) hx hb dX0_has_1 (by decide) (fun c_1 => ?_) (fun c_1 => ?_)
  · have c_1n := Int32.not_le.mpr c_1
    refine lv_iconst (v := 0) hx hb dX0_has_16 (by decide) ?_
    exact rd_zret hx hb hr hlocks dX0_has_17 (by simp [gHas, bI, c_1, c_1n])
  · have c_1n := Int32.not_lt.mp c_1
    refine lv_iload_n hx hb dX0_has_4 rfl (lv_at hl 1 rfl) ?_
    refine lv_aload_n hx hb dX0_has_5 rfl (lv_at hl 0 rfl) ?_
    refine va_get (D := D) (ci := 0) (v := .int (nI n)) (C := RX0) (T := TX0) (N := 2) hx hb hts hinX0 hown hK hP qb hqb rfl 1 (by decide) hw15 (fun _ h9 => h9) rfl dX0_has_6 ?_
    refine lv_icmp_ge (tgt := 16) hx hb dX0_has_9 (by decide) (fun c_9 => ?_) (fun c_9 => ?_)
    · have c_9n := Int32.not_lt.mpr c_9
      refine lv_iconst (v := 0) hx hb dX0_has_16 (by decide) ?_
      exact rd_zret hx hb hr hlocks dX0_has_17 (by simp [gHas, bI, c_1, c_1n, c_9, c_9n])
    · have c_9n := Int32.not_le.mp c_9
      refine lv_iconst (v := 1) hx hb dX0_has_12 (by decide) ?_
      refine lv_goto (tgt := 17) hx hb dX0_has_13 (by decide) ?_
      exact rd_zret hx hb hr hlocks dX0_has_17 (by simp [gHas, bI, c_1, c_1n, c_9, c_9n])
set_option maxHeartbeats 4000000 in
set_option maxRecDepth 100000 in
theorem c_J6_bitCount_0f7a4 (l : Launch) (D : va_G) {w : va_W} {tys : List (ClassId × FieldType)} (a : Int32) : rd_M l yJ6_bitCount_0f7a4 wsJ6_bitCount_0f7a4 ({ frames := 0, cells := 0, slots := 0, locals := 0 } : Room) D w tys [.int a] (bCt a) := by
  refine rd_of (cc := cJ6_bitCount_0f7a4) (maxL := 1) (ret := some .int) (by decide) rfl (Nat.le_of_ble_eq_true rfl) ?_
  intro p e s m below meth c hx hb hr hml hts hown hlocks hP hK hN ls hl
  have hown : s.vm.findClass RJ6 = some m.cls := hown
  have hl : lv_has ls 1 [(0, .int a)] := hl
  have hw265 := hts (.constant RJ6 265 (1431655765)) (by decide +kernel)
  have hw266 := hts (.constant RJ6 266 (858993459)) (by decide +kernel)
  have hw267 := hts (.constant RJ6 267 (252645135)) (by decide +kernel)
  refine lv_iload_n hx hb dJ6_bitCount_0f7a4_0 rfl (lv_at hl 0 rfl) ?_
  refine lv_iload_n hx hb dJ6_bitCount_0f7a4_1 rfl (lv_at hl 0 rfl) ?_
  refine lv_iconst (v := 1) hx hb dJ6_bitCount_0f7a4_2 (by decide) ?_
  refine lv_iushr hx hb dJ6_bitCount_0f7a4_3 rfl ?_
  refine lv_ldcw (v := 1431655765) hx hb hown hw265 dJ6_bitCount_0f7a4_4 ?_
  refine lv_iand hx hb dJ6_bitCount_0f7a4_7 ?_
  refine lv_isub hx hb dJ6_bitCount_0f7a4_8 ?_
  refine lv_istore_n (lv' := [(0, .int (a - (((a.toUInt32 >>> ((1 : Int32).toUInt32 &&& Int32.toUInt32 31)).toInt32) &&& 1431655765)))]) hx hb dJ6_bitCount_0f7a4_9 rfl hl (by decide) rfl (fun ls hl => ?_)
  refine lv_iload_n hx hb dJ6_bitCount_0f7a4_10 rfl (lv_at hl 0 rfl) ?_
  refine lv_ldcw (v := 858993459) hx hb hown hw266 dJ6_bitCount_0f7a4_11 ?_
  refine lv_iand hx hb dJ6_bitCount_0f7a4_14 ?_
  refine lv_iload_n hx hb dJ6_bitCount_0f7a4_15 rfl (lv_at hl 0 rfl) ?_
  refine lv_iconst (v := 2) hx hb dJ6_bitCount_0f7a4_16 (by decide) ?_
  refine lv_iushr hx hb dJ6_bitCount_0f7a4_17 rfl ?_
  refine lv_ldcw (v := 858993459) hx hb hown hw266 dJ6_bitCount_0f7a4_18 ?_
  refine lv_iand hx hb dJ6_bitCount_0f7a4_21 ?_
  refine lv_iadd hx hb dJ6_bitCount_0f7a4_22 ?_
  refine lv_istore_n (lv' := [(0, .int (((a - (((a.toUInt32 >>> ((1 : Int32).toUInt32 &&& Int32.toUInt32 31)).toInt32) &&& 1431655765)) &&& 858993459) + ((((a - (((a.toUInt32 >>> ((1 : Int32).toUInt32 &&& Int32.toUInt32 31)).toInt32) &&& 1431655765)).toUInt32 >>> ((2 : Int32).toUInt32 &&& Int32.toUInt32 31)).toInt32) &&& 858993459)))]) hx hb dJ6_bitCount_0f7a4_23 rfl hl (by decide) rfl (fun ls hl => ?_)
  refine lv_iload_n hx hb dJ6_bitCount_0f7a4_24 rfl (lv_at hl 0 rfl) ?_
  refine lv_iload_n hx hb dJ6_bitCount_0f7a4_25 rfl (lv_at hl 0 rfl) ?_
  refine lv_iconst (v := 4) hx hb dJ6_bitCount_0f7a4_26 (by decide) ?_
  refine lv_iushr hx hb dJ6_bitCount_0f7a4_27 rfl ?_
  refine lv_iadd hx hb dJ6_bitCount_0f7a4_28 ?_
  refine lv_ldcw (v := 252645135) hx hb hown hw267 dJ6_bitCount_0f7a4_29 ?_
  refine lv_iand hx hb dJ6_bitCount_0f7a4_32 ?_
  refine lv_istore_n (lv' := [(0, .int (((((a - (((a.toUInt32 >>> ((1 : Int32).toUInt32 &&& Int32.toUInt32 31)).toInt32) &&& 1431655765)) &&& 858993459) + ((((a - (((a.toUInt32 >>> ((1 : Int32).toUInt32 &&& Int32.toUInt32 31)).toInt32) &&& 1431655765)).toUInt32 >>> ((2 : Int32).toUInt32 &&& Int32.toUInt32 31)).toInt32) &&& 858993459)) + (((((a - (((a.toUInt32 >>> ((1 : Int32).toUInt32 &&& Int32.toUInt32 31)).toInt32) &&& 1431655765)) &&& 858993459) + ((((a - (((a.toUInt32 >>> ((1 : Int32).toUInt32 &&& Int32.toUInt32 31)).toInt32) &&& 1431655765)).toUInt32 >>> ((2 : Int32).toUInt32 &&& Int32.toUInt32 31)).toInt32) &&& 858993459)).toUInt32 >>> ((4 : Int32).toUInt32 &&& Int32.toUInt32 31)).toInt32)) &&& 252645135))]) hx hb dJ6_bitCount_0f7a4_33 rfl hl (by decide) rfl (fun ls hl => ?_)
  refine lv_iload_n hx hb dJ6_bitCount_0f7a4_34 rfl (lv_at hl 0 rfl) ?_
  refine lv_iload_n hx hb dJ6_bitCount_0f7a4_35 rfl (lv_at hl 0 rfl) ?_
  refine lv_bipush (v := 8) hx hb dJ6_bitCount_0f7a4_36 (by decide) ?_
  refine lv_iushr hx hb dJ6_bitCount_0f7a4_38 rfl ?_
  refine lv_iadd hx hb dJ6_bitCount_0f7a4_39 ?_
  refine lv_istore_n (lv' := [(0, .int ((((((a - (((a.toUInt32 >>> ((1 : Int32).toUInt32 &&& Int32.toUInt32 31)).toInt32) &&& 1431655765)) &&& 858993459) + ((((a - (((a.toUInt32 >>> ((1 : Int32).toUInt32 &&& Int32.toUInt32 31)).toInt32) &&& 1431655765)).toUInt32 >>> ((2 : Int32).toUInt32 &&& Int32.toUInt32 31)).toInt32) &&& 858993459)) + (((((a - (((a.toUInt32 >>> ((1 : Int32).toUInt32 &&& Int32.toUInt32 31)).toInt32) &&& 1431655765)) &&& 858993459) + ((((a - (((a.toUInt32 >>> ((1 : Int32).toUInt32 &&& Int32.toUInt32 31)).toInt32) &&& 1431655765)).toUInt32 >>> ((2 : Int32).toUInt32 &&& Int32.toUInt32 31)).toInt32) &&& 858993459)).toUInt32 >>> ((4 : Int32).toUInt32 &&& Int32.toUInt32 31)).toInt32)) &&& 252645135) + (((((((a - (((a.toUInt32 >>> ((1 : Int32).toUInt32 &&& Int32.toUInt32 31)).toInt32) &&& 1431655765)) &&& 858993459) + ((((a - (((a.toUInt32 >>> ((1 : Int32).toUInt32 &&& Int32.toUInt32 31)).toInt32) &&& 1431655765)).toUInt32 >>> ((2 : Int32).toUInt32 &&& Int32.toUInt32 31)).toInt32) &&& 858993459)) + (((((a - (((a.toUInt32 >>> ((1 : Int32).toUInt32 &&& Int32.toUInt32 31)).toInt32) &&& 1431655765)) &&& 858993459) + ((((a - (((a.toUInt32 >>> ((1 : Int32).toUInt32 &&& Int32.toUInt32 31)).toInt32) &&& 1431655765)).toUInt32 >>> ((2 : Int32).toUInt32 &&& Int32.toUInt32 31)).toInt32) &&& 858993459)).toUInt32 >>> ((4 : Int32).toUInt32 &&& Int32.toUInt32 31)).toInt32)) &&& 252645135).toUInt32 >>> ((8 : Int32).toUInt32 &&& Int32.toUInt32 31)).toInt32)))]) hx hb dJ6_bitCount_0f7a4_40 rfl hl (by decide) rfl (fun ls hl => ?_)
  refine lv_iload_n hx hb dJ6_bitCount_0f7a4_41 rfl (lv_at hl 0 rfl) ?_
  refine lv_iload_n hx hb dJ6_bitCount_0f7a4_42 rfl (lv_at hl 0 rfl) ?_
  refine lv_bipush (v := 16) hx hb dJ6_bitCount_0f7a4_43 (by decide) ?_
  refine lv_iushr hx hb dJ6_bitCount_0f7a4_45 rfl ?_
  refine lv_iadd hx hb dJ6_bitCount_0f7a4_46 ?_
  refine lv_istore_n (lv' := [(0, .int (((((((a - (((a.toUInt32 >>> ((1 : Int32).toUInt32 &&& Int32.toUInt32 31)).toInt32) &&& 1431655765)) &&& 858993459) + ((((a - (((a.toUInt32 >>> ((1 : Int32).toUInt32 &&& Int32.toUInt32 31)).toInt32) &&& 1431655765)).toUInt32 >>> ((2 : Int32).toUInt32 &&& Int32.toUInt32 31)).toInt32) &&& 858993459)) + (((((a - (((a.toUInt32 >>> ((1 : Int32).toUInt32 &&& Int32.toUInt32 31)).toInt32) &&& 1431655765)) &&& 858993459) + ((((a - (((a.toUInt32 >>> ((1 : Int32).toUInt32 &&& Int32.toUInt32 31)).toInt32) &&& 1431655765)).toUInt32 >>> ((2 : Int32).toUInt32 &&& Int32.toUInt32 31)).toInt32) &&& 858993459)).toUInt32 >>> ((4 : Int32).toUInt32 &&& Int32.toUInt32 31)).toInt32)) &&& 252645135) + (((((((a - (((a.toUInt32 >>> ((1 : Int32).toUInt32 &&& Int32.toUInt32 31)).toInt32) &&& 1431655765)) &&& 858993459) + ((((a - (((a.toUInt32 >>> ((1 : Int32).toUInt32 &&& Int32.toUInt32 31)).toInt32) &&& 1431655765)).toUInt32 >>> ((2 : Int32).toUInt32 &&& Int32.toUInt32 31)).toInt32) &&& 858993459)) + (((((a - (((a.toUInt32 >>> ((1 : Int32).toUInt32 &&& Int32.toUInt32 31)).toInt32) &&& 1431655765)) &&& 858993459) + ((((a - (((a.toUInt32 >>> ((1 : Int32).toUInt32 &&& Int32.toUInt32 31)).toInt32) &&& 1431655765)).toUInt32 >>> ((2 : Int32).toUInt32 &&& Int32.toUInt32 31)).toInt32) &&& 858993459)).toUInt32 >>> ((4 : Int32).toUInt32 &&& Int32.toUInt32 31)).toInt32)) &&& 252645135).toUInt32 >>> ((8 : Int32).toUInt32 &&& Int32.toUInt32 31)).toInt32)) + ((((((((a - (((a.toUInt32 >>> ((1 : Int32).toUInt32 &&& Int32.toUInt32 31)).toInt32) &&& 1431655765)) &&& 858993459) + ((((a - (((a.toUInt32 >>> ((1 : Int32).toUInt32 &&& Int32.toUInt32 31)).toInt32) &&& 1431655765)).toUInt32 >>> ((2 : Int32).toUInt32 &&& Int32.toUInt32 31)).toInt32) &&& 858993459)) + (((((a - (((a.toUInt32 >>> ((1 : Int32).toUInt32 &&& Int32.toUInt32 31)).toInt32) &&& 1431655765)) &&& 858993459) + ((((a - (((a.toUInt32 >>> ((1 : Int32).toUInt32 &&& Int32.toUInt32 31)).toInt32) &&& 1431655765)).toUInt32 >>> ((2 : Int32).toUInt32 &&& Int32.toUInt32 31)).toInt32) &&& 858993459)).toUInt32 >>> ((4 : Int32).toUInt32 &&& Int32.toUInt32 31)).toInt32)) &&& 252645135) + (((((((a - (((a.toUInt32 >>> ((1 : Int32).toUInt32 &&& Int32.toUInt32 31)).toInt32) &&& 1431655765)) &&& 858993459) + ((((a - (((a.toUInt32 >>> ((1 : Int32).toUInt32 &&& Int32.toUInt32 31)).toInt32) &&& 1431655765)).toUInt32 >>> ((2 : Int32).toUInt32 &&& Int32.toUInt32 31)).toInt32) &&& 858993459)) + (((((a - (((a.toUInt32 >>> ((1 : Int32).toUInt32 &&& Int32.toUInt32 31)).toInt32) &&& 1431655765)) &&& 858993459) + ((((a - (((a.toUInt32 >>> ((1 : Int32).toUInt32 &&& Int32.toUInt32 31)).toInt32) &&& 1431655765)).toUInt32 >>> ((2 : Int32).toUInt32 &&& Int32.toUInt32 31)).toInt32) &&& 858993459)).toUInt32 >>> ((4 : Int32).toUInt32 &&& Int32.toUInt32 31)).toInt32)) &&& 252645135).toUInt32 >>> ((8 : Int32).toUInt32 &&& Int32.toUInt32 31)).toInt32)).toUInt32 >>> ((16 : Int32).toUInt32 &&& Int32.toUInt32 31)).toInt32)))]) hx hb dJ6_bitCount_0f7a4_47 rfl hl (by decide) rfl (fun ls hl => ?_)
  refine lv_iload_n hx hb dJ6_bitCount_0f7a4_48 rfl (lv_at hl 0 rfl) ?_
  refine lv_bipush (v := 63) hx hb dJ6_bitCount_0f7a4_49 (by decide) ?_
  refine lv_iand hx hb dJ6_bitCount_0f7a4_51 ?_
  exact rd_iret hx hb hr hlocks dJ6_bitCount_0f7a4_52 (by rfl)
set_option maxHeartbeats 4000000 in
set_option maxRecDepth 100000 in
theorem c_X0_openCornersBeside (l : Launch) (D : va_G) {w : va_W} {tys : List (ClassId × FieldType)} {ob n : Nat} {P : Nat → Nat → Int32} (hbd : bd_in w tys ob n P) (b : Int32) : rd_M l yX0_openCornersBeside wsX0_openCornersBeside ({ frames := 3, cells := 0, slots := 0, locals := 75 } : Room) D w tys [.ref ob, .int b] (mOM n P b) := by
  obtain ⟨qb, qc, t0, oc, cI, f, hqb, hqc, ht0, hn8, hf⟩ := id hbd
  refine rd_of (cc := cX0_openCornersBeside) (maxL := 4) (ret := some .int) (by decide) rfl (Nat.le_of_ble_eq_true rfl) ?_
  intro p e s m below meth c hx hb hr hml hts hown hlocks hP hK hN ls hl
  have hown : s.vm.findClass RX0 = some m.cls := hown
  have hl : lv_has ls 4 [(0, .ref ob), (1, .int b)] := hl
  have hw15 := hts (.fieldLink RX0 15 "CornerLabels$Board" "points" "I") (by decide +kernel)
  have hinX0 : ∀ w ∈ u_ws RX0 TX0 2, w ∈ wsX0_openCornersBeside := by decide +kernel
  refine lv_iconst (v := 0) hx hb dX0_openCornersBeside_0 (by decide) ?_
  refine lv_istore_n (lv' := [(2, .int 0), (0, .ref ob), (1, .int b)]) hx hb dX0_openCornersBeside_1 rfl hl (by decide) rfl (fun ls hl => ?_)
  refine lv_iconst (v := 0) hx hb dX0_openCornersBeside_2 (by decide) ?_
  refine lv_istore_n (lv' := [(3, .int 0), (2, .int 0), (0, .ref ob), (1, .int b)]) hx hb dX0_openCornersBeside_3 rfl hl (by decide) rfl (fun ls hl => ?_)
  suffices loop4 : ∀ (k4 i : Nat) (a : Int32) (ls : Array Slot), i ≤ n → n + 1 ≤ i + k4 → (mOM n P b = gF n (mOMF n P b) i a) → lv_has ls 4 [(0, .ref ob), (1, .int b), (2, .int a), (3, .int (nI i))] → rd_W p l e wsX0_openCornersBeside ({ frames := 3, cells := 0, slots := 0, locals := 75 } : Room) s m [.ref ob, .int b] below meth c (mOM n P b) (F0 m 4 ls []) from
    loop4 (n + 1) 0 0 ls (by omega) (by omega) (by rfl) (lv_sub hl [2, 3, 1, 0] rfl)
  intro k4
  induction k4 with
  | zero => intro i a ls h1 h2; exact absurd h2 (by omega)
  | succ k4 ih4 =>
    intro i a ls hle4 hlt4 inv4 hl
    refine lv_iload_n hx hb dX0_openCornersBeside_4 rfl (lv_at hl 3 rfl) ?_
    refine lv_aload_n hx hb dX0_openCornersBeside_5 rfl (lv_at hl 0 rfl) ?_
    refine va_get (D := D) (ci := 0) (v := .int (nI n)) (C := RX0) (T := TX0) (N := 2) hx hb hts hinX0 hown hK hP qb hqb rfl 1 (by decide) hw15 (fun _ h9 => h9) rfl dX0_openCornersBeside_6 ?_
    refine rd_icmp_ge_n (a := i) (b := n) (tgt := 34) (by omega) (by omega) hx hb dX0_openCornersBeside_9 (by decide) (fun c_9 => ?_) (fun c_9 => ?_)
    · have c_9n := Nat.not_lt.mpr c_9
      refine lv_iload_n hx hb dX0_openCornersBeside_34 rfl (lv_at hl 2 rfl) ?_
      exact rd_iret hx hb hr hlocks dX0_openCornersBeside_35 (by rw [inv4, gF_end c_9])
    · have c_9n := Nat.not_le.mpr c_9
      refine lv_iload_n hx hb dX0_openCornersBeside_12 rfl (lv_at hl 3 rfl) ?_
      refine lv_iload_n hx hb dX0_openCornersBeside_13 rfl (lv_at hl 1 rfl) ?_
      refine lv_icmp_eq (tgt := 28) hx hb dX0_openCornersBeside_14 (by decide) (fun c_14 => ?_) (fun c_14 => ?_)
      · refine lv_iinc (v := nI (i + 1)) (lv' := [(3, .int (nI (i + 1))), (0, .ref ob), (1, .int b), (2, .int a)]) hx hb dX0_openCornersBeside_28 hl (k := 3) rfl (nI_add i 1) (by decide) rfl (fun ls hl => ?_)
        refine lv_goto (tgt := 4) hx hb dX0_openCornersBeside_31 (by decide) ?_
        exact ih4 (i + 1) a ls (by omega) (by omega) (by rw [inv4, gF_step c_9]; simp [mOMF, c_9n, c_14]) (lv_sub hl [1, 2, 3, 0] rfl)
      · refine lv_iload_n hx hb dX0_openCornersBeside_17 rfl (lv_at hl 2 rfl) ?_
        refine lv_aload_n hx hb dX0_openCornersBeside_18 rfl (lv_at hl 0 rfl) ?_
        refine lv_iload_n hx hb dX0_openCornersBeside_19 rfl (lv_at hl 3 rfl) ?_
        refine rd_callV (As := [.int (nI i)]) (rest := [.int a]) ⟨hx, hb, hml, hown, hts⟩ (c_X0_openMask l D hbd c_9) (cwV 1 hts gX0_openCornersBeside_X0_openMask rfl rfl rfl (by decide +kernel) ⟨by decide, by decide⟩) hK hN hP hqb rfl rfl hl.1 rfl (Nat.le_of_ble_eq_true rfl) ⟨by decide, by decide⟩ dX0_openCornersBeside_20 ?_
        refine rd_callS (As := [.int (gMk n P i)]) (rest := [.int a]) ⟨hx, hb, hml, hown, hts⟩ (c_J6_bitCount_0f7a4 l D (gMk n P i)) (va_cwS 1 hts gX0_openCornersBeside_J6_bitCount_0f7a4 rfl rfl rfl (by decide +kernel) ⟨by decide, by decide⟩) hK hN hP rfl hl.1 rfl (Nat.le_of_ble_eq_true rfl) ⟨by decide, by decide⟩ dX0_openCornersBeside_23 ?_
        refine lv_asi (y := mOnes (gMk n P i)) (bCt_gMk n P i) ?_
        refine lv_iadd hx hb dX0_openCornersBeside_26 ?_
        refine lv_istore_n (lv' := [(2, .int (a + (mOnes (gMk n P i)))), (0, .ref ob), (1, .int b), (3, .int (nI i))]) hx hb dX0_openCornersBeside_27 rfl hl (by decide) rfl (fun ls hl => ?_)
        refine lv_iinc (v := nI (i + 1)) (lv' := [(3, .int (nI (i + 1))), (2, .int (a + (mOnes (gMk n P i)))), (0, .ref ob), (1, .int b)]) hx hb dX0_openCornersBeside_28 hl (k := 3) rfl (nI_add i 1) (by decide) rfl (fun ls hl => ?_)
        refine lv_goto (tgt := 4) hx hb dX0_openCornersBeside_31 (by decide) ?_
        exact ih4 (i + 1) (a + (mOnes (gMk n P i))) ls (by omega) (by omega) (by rw [inv4, gF_step c_9]; simp [mOMF, c_9n, c_14]) (lv_sub hl [2, 3, 1, 0] rfl)
set_option maxHeartbeats 4000000 in
set_option maxRecDepth 100000 in
theorem c_X4_isSquare (l : Launch) (D : va_G) {w : va_W} {tys : List (ClassId × FieldType)} (x y : Int32) : rd_M l yX4_isSquare wsX4_isSquare ({ frames := 0, cells := 0, slots := 0, locals := 0 } : Room) D w tys [.int x, .int y] (bI (mIn x 0 59 && mIn y 0 39)) := by
  refine rd_of (cc := cX4_isSquare) (maxL := 2) (ret := some .boolean) (by decide) rfl (Nat.le_of_ble_eq_true rfl) ?_
  intro p e s m below meth c hx hb hr hml hts hown hlocks hP hK hN ls hl
  have hown : s.vm.findClass RX4 = some m.cls := hown
  have hl : lv_has ls 2 [(0, .int x), (1, .int y)] := hl
  refine lv_iload_n hx hb dX4_isSquare_0 rfl (lv_at hl 0 rfl) ?_
  refine lv_if_lt (tgt := 24) hx hb dX4_isSquare_1 (by decide) (fun c_1 => ?_) (fun c_1 => ?_)
  · have c_1n := Int32.not_le.mpr c_1
    refine lv_iconst (v := 0) hx hb dX4_isSquare_24 (by decide) ?_
    exact rd_zret hx hb hr hlocks dX4_isSquare_25 (by exact bI_0of (by rw [mIn_lo c_1]; rfl))
  · have c_1n := Int32.not_lt.mp c_1
    refine lv_iload_n hx hb dX4_isSquare_4 rfl (lv_at hl 0 rfl) ?_
    refine lv_bipush (v := 60) hx hb dX4_isSquare_5 (by decide) ?_
    refine lv_icmp_ge (tgt := 24) hx hb dX4_isSquare_7 (by decide) (fun c_7 => ?_) (fun c_7 => ?_)
    · have c_7n := Int32.not_lt.mpr c_7
      refine lv_iconst (v := 0) hx hb dX4_isSquare_24 (by decide) ?_
      exact rd_zret hx hb hr hlocks dX4_isSquare_25 (by exact bI_0of (by rw [mIn_hi (gt_59 (Int32.not_lt.mp c_7n))]; rfl))
    · have c_7n := Int32.not_le.mp c_7
      refine lv_iload_n hx hb dX4_isSquare_10 rfl (lv_at hl 1 rfl) ?_
      refine lv_if_lt (tgt := 24) hx hb dX4_isSquare_11 (by decide) (fun c_11 => ?_) (fun c_11 => ?_)
      · have c_11n := Int32.not_le.mpr c_11
        refine lv_iconst (v := 0) hx hb dX4_isSquare_24 (by decide) ?_
        exact rd_zret hx hb hr hlocks dX4_isSquare_25 (by exact bI_0of (by rw [mIn_lo (v := y) c_11, Bool.and_false]))
      · have c_11n := Int32.not_lt.mp c_11
        refine lv_iload_n hx hb dX4_isSquare_14 rfl (lv_at hl 1 rfl) ?_
        refine lv_bipush (v := 40) hx hb dX4_isSquare_15 (by decide) ?_
        refine lv_icmp_ge (tgt := 24) hx hb dX4_isSquare_17 (by decide) (fun c_17 => ?_) (fun c_17 => ?_)
        · have c_17n := Int32.not_lt.mpr c_17
          refine lv_iconst (v := 0) hx hb dX4_isSquare_24 (by decide) ?_
          exact rd_zret hx hb hr hlocks dX4_isSquare_25 (by exact bI_0of (by rw [mIn_hi (v := y) (gt_39 (Int32.not_lt.mp c_17n)), Bool.and_false]))
        · have c_17n := Int32.not_le.mp c_17
          refine lv_iconst (v := 1) hx hb dX4_isSquare_20 (by decide) ?_
          refine lv_goto (tgt := 25) hx hb dX4_isSquare_21 (by decide) ?_
          exact rd_zret hx hb hr hlocks dX4_isSquare_25 (by exact bI_1of (by rw [mIn_t c_1n (le_59 c_7n), mIn_t c_11n (le_39 c_17n)]; rfl))
set_option maxHeartbeats 4000000 in
set_option maxRecDepth 100000 in
theorem c_X4_isSize (l : Launch) (D : va_G) {w : va_W} {tys : List (ClassId × FieldType)} (x y : Int32) : rd_M l yX4_isSize wsX4_isSize ({ frames := 0, cells := 0, slots := 0, locals := 0 } : Room) D w tys [.int x, .int y] (bI (mIn x 1 20 && mIn y 1 9)) := by
  refine rd_of (cc := cX4_isSize) (maxL := 2) (ret := some .boolean) (by decide) rfl (Nat.le_of_ble_eq_true rfl) ?_
  intro p e s m below meth c hx hb hr hml hts hown hlocks hP hK hN ls hl
  have hown : s.vm.findClass RX4 = some m.cls := hown
  have hl : lv_has ls 2 [(0, .int x), (1, .int y)] := hl
  refine lv_iload_n hx hb dX4_isSize_0 rfl (lv_at hl 0 rfl) ?_
  refine lv_iconst (v := 1) hx hb dX4_isSize_1 (by decide) ?_
  refine lv_icmp_lt (tgt := 26) hx hb dX4_isSize_2 (by decide) (fun c_2 => ?_) (fun c_2 => ?_)
  · have c_2n := Int32.not_le.mpr c_2
    refine lv_iconst (v := 0) hx hb dX4_isSize_26 (by decide) ?_
    exact rd_zret hx hb hr hlocks dX4_isSize_27 (by exact bI_0of (by rw [mIn_lo c_2]; rfl))
  · have c_2n := Int32.not_lt.mp c_2
    refine lv_iload_n hx hb dX4_isSize_5 rfl (lv_at hl 0 rfl) ?_
    refine lv_bipush (v := 20) hx hb dX4_isSize_6 (by decide) ?_
    refine lv_icmp_gt (tgt := 26) hx hb dX4_isSize_8 (by decide) (fun c_8 => ?_) (fun c_8 => ?_)
    · have c_8n := Int32.not_le.mpr c_8
      refine lv_iconst (v := 0) hx hb dX4_isSize_26 (by decide) ?_
      exact rd_zret hx hb hr hlocks dX4_isSize_27 (by exact bI_0of (by rw [mIn_hi c_8]; rfl))
    · have c_8n := Int32.not_lt.mp c_8
      refine lv_iload_n hx hb dX4_isSize_11 rfl (lv_at hl 1 rfl) ?_
      refine lv_iconst (v := 1) hx hb dX4_isSize_12 (by decide) ?_
      refine lv_icmp_lt (tgt := 26) hx hb dX4_isSize_13 (by decide) (fun c_13 => ?_) (fun c_13 => ?_)
      · have c_13n := Int32.not_le.mpr c_13
        refine lv_iconst (v := 0) hx hb dX4_isSize_26 (by decide) ?_
        exact rd_zret hx hb hr hlocks dX4_isSize_27 (by exact bI_0of (by rw [mIn_lo (v := y) c_13, Bool.and_false]))
      · have c_13n := Int32.not_lt.mp c_13
        refine lv_iload_n hx hb dX4_isSize_16 rfl (lv_at hl 1 rfl) ?_
        refine lv_bipush (v := 9) hx hb dX4_isSize_17 (by decide) ?_
        refine lv_icmp_gt (tgt := 26) hx hb dX4_isSize_19 (by decide) (fun c_19 => ?_) (fun c_19 => ?_)
        · have c_19n := Int32.not_le.mpr c_19
          refine lv_iconst (v := 0) hx hb dX4_isSize_26 (by decide) ?_
          exact rd_zret hx hb hr hlocks dX4_isSize_27 (by exact bI_0of (by rw [mIn_hi (v := y) c_19, Bool.and_false]))
        · have c_19n := Int32.not_lt.mp c_19
          refine lv_iconst (v := 1) hx hb dX4_isSize_22 (by decide) ?_
          refine lv_goto (tgt := 27) hx hb dX4_isSize_23 (by decide) ?_
          exact rd_zret hx hb hr hlocks dX4_isSize_27 (by exact bI_1of (by rw [mIn_t c_2n c_8n, mIn_t c_13n c_19n]; rfl))
set_option maxHeartbeats 4000000 in
set_option maxRecDepth 100000 in
theorem c_X4_isWeight (l : Launch) (D : va_G) {w : va_W} {tys : List (ClassId × FieldType)} (x : Int32) : rd_M l yX4_isWeight wsX4_isWeight ({ frames := 0, cells := 0, slots := 0, locals := 0 } : Room) D w tys [.int x] (bI (mIn x 1 99)) := by
  refine rd_of (cc := cX4_isWeight) (maxL := 1) (ret := some .boolean) (by decide) rfl (Nat.le_of_ble_eq_true rfl) ?_
  intro p e s m below meth c hx hb hr hml hts hown hlocks hP hK hN ls hl
  have hown : s.vm.findClass RX4 = some m.cls := hown
  have hl : lv_has ls 1 [(0, .int x)] := hl
  refine lv_iload_n hx hb dX4_isWeight_0 rfl (lv_at hl 0 rfl) ?_
  refine lv_iconst (v := 1) hx hb dX4_isWeight_1 (by decide) ?_
  refine lv_icmp_lt (tgt := 15) hx hb dX4_isWeight_2 (by decide) (fun c_2 => ?_) (fun c_2 => ?_)
  · have c_2n := Int32.not_le.mpr c_2
    refine lv_iconst (v := 0) hx hb dX4_isWeight_15 (by decide) ?_
    exact rd_zret hx hb hr hlocks dX4_isWeight_16 (by exact bI_0of (by exact mIn_lo c_2))
  · have c_2n := Int32.not_lt.mp c_2
    refine lv_iload_n hx hb dX4_isWeight_5 rfl (lv_at hl 0 rfl) ?_
    refine lv_bipush (v := 99) hx hb dX4_isWeight_6 (by decide) ?_
    refine lv_icmp_gt (tgt := 15) hx hb dX4_isWeight_8 (by decide) (fun c_8 => ?_) (fun c_8 => ?_)
    · have c_8n := Int32.not_le.mpr c_8
      refine lv_iconst (v := 0) hx hb dX4_isWeight_15 (by decide) ?_
      exact rd_zret hx hb hr hlocks dX4_isWeight_16 (by exact bI_0of (by exact mIn_hi c_8))
    · have c_8n := Int32.not_lt.mp c_8
      refine lv_iconst (v := 1) hx hb dX4_isWeight_11 (by decide) ?_
      refine lv_goto (tgt := 16) hx hb dX4_isWeight_12 (by decide) ?_
      exact rd_zret hx hb hr hlocks dX4_isWeight_16 (by exact bI_1of (by exact mIn_t c_2n c_8n))
set_option maxHeartbeats 4000000 in
set_option maxRecDepth 100000 in
theorem c_X4_isCorner (l : Launch) (D : va_G) {w : va_W} {tys : List (ClassId × FieldType)} (x : Int32) : rd_M l yX4_isCorner wsX4_isCorner ({ frames := 0, cells := 0, slots := 0, locals := 0 } : Room) D w tys [.int x] (bI (mIn x 0 3)) := by
  refine rd_of (cc := cX4_isCorner) (maxL := 1) (ret := some .boolean) (by decide) rfl (Nat.le_of_ble_eq_true rfl) ?_
  intro p e s m below meth c hx hb hr hml hts hown hlocks hP hK hN ls hl
  have hown : s.vm.findClass RX4 = some m.cls := hown
  have hl : lv_has ls 1 [(0, .int x)] := hl
  refine lv_iload_n hx hb dX4_isCorner_0 rfl (lv_at hl 0 rfl) ?_
  refine lv_if_lt (tgt := 13) hx hb dX4_isCorner_1 (by decide) (fun c_1 => ?_) (fun c_1 => ?_)
  · have c_1n := Int32.not_le.mpr c_1
    refine lv_iconst (v := 0) hx hb dX4_isCorner_13 (by decide) ?_
    exact rd_zret hx hb hr hlocks dX4_isCorner_14 (by exact bI_0of (by exact mIn_lo c_1))
  · have c_1n := Int32.not_lt.mp c_1
    refine lv_iload_n hx hb dX4_isCorner_4 rfl (lv_at hl 0 rfl) ?_
    refine lv_iconst (v := 4) hx hb dX4_isCorner_5 (by decide) ?_
    refine lv_icmp_ge (tgt := 13) hx hb dX4_isCorner_6 (by decide) (fun c_6 => ?_) (fun c_6 => ?_)
    · have c_6n := Int32.not_lt.mpr c_6
      refine lv_iconst (v := 0) hx hb dX4_isCorner_13 (by decide) ?_
      exact rd_zret hx hb hr hlocks dX4_isCorner_14 (by exact bI_0of (by exact mIn_hi (gt_3 (Int32.not_lt.mp c_6n))))
    · have c_6n := Int32.not_le.mp c_6
      refine lv_iconst (v := 1) hx hb dX4_isCorner_9 (by decide) ?_
      refine lv_goto (tgt := 14) hx hb dX4_isCorner_10 (by decide) ?_
      exact rd_zret hx hb hr hlocks dX4_isCorner_14 (by exact bI_1of (by exact mIn_t c_1n (le_3 c_6n)))
set_option maxHeartbeats 4000000 in
set_option maxRecDepth 100000 in
theorem c_X4_mix (l : Launch) (D : va_G) (a b : Int64) : wr_M l yX4_mix wsX4_mix ({ frames := 0, cells := 0, slots := 0, locals := 0 } : Room) D (E0) [] [.long a, .long b] (fun v w9 => v = some (.long (gHx a b)) ∧ w9 = E0) := by
  refine wr_of (cc := cX4_mix) (maxL := 4) (ret := some .long) (by decide) rfl (Nat.le_of_ble_eq_true rfl) ?_
  intro p e s m below meth c hx hb hr hml hts hown hlocks hP hK hN hZ hD hS ls hl
  have hown : s.vm.findClass RX4 = some m.cls := hown
  have hl : lv_has ls 4 [(0, .long a), (2, .long b)] := hl
  have hw272 := hts (.constantLong RX4 272 (31)) (by decide +kernel)
  suffices body : ∀ (H : Heap) (locs : List Loc), va_P D vwCl (E0) H → va_D (wr_in (E0)) (E0) → va_S (wr_in (E0)) s.heap H locs → wr_W p l e wsX4_mix ({ frames := 0, cells := 0, slots := 0, locals := 0 } : Room) s m [.long a, .long b] below meth c D (E0) (fun v w9 => v = some (.long (gHx a b)) ∧ w9 = E0) H locs (F0 m 0 ls []) from body _ _ hP hD hS
  clear hP hD hS
  intro H locs hP hD hS
  refine lv_ldc2 (v := 31) hx hb hown hw272 dX4_mix_0 ?_
  refine lv_lload_n hx hb dX4_mix_3 rfl (lv_at hl 0 rfl) ?_
  refine lv_lmul hx hb dX4_mix_4 ?_
  refine lv_lload_n hx hb dX4_mix_5 rfl (lv_at hl 1 rfl) ?_
  refine lv_ladd hx hb dX4_mix_6 ?_
  exact wr_lret hx hb hr hlocks hP hS rfl dX4_mix_7 (by exact ⟨rfl, rfl⟩)
