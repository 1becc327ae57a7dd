set_option maxHeartbeats 4000000 in
set_option maxRecDepth 100000 in
theorem c_X5_weightOf (l : Launch) (D : va_G) {w : va_W} {tys : List (ClassId × FieldType)} {om n : Nat} {P : Nat → Nat → Int32} (hmd : md_in w tys om n P) (b : Bool) : rd_M l yX5_weightOf wsX5_weightOf ({ frames := 2, cells := 0, slots := 0, locals := 43 } : Room) D w tys [.ref om, .int (bI b)] (mW n P b) := by
  obtain ⟨qm, qs, t0, os, cI, S, fs, hqm, hfs, hqs, ht0, hn8, hS0, hS, hbk⟩ := id hmd
  refine rd_of (cc := cX5_weightOf) (maxL := 4) (ret := some .int) (by decide) rfl (Nat.le_of_ble_eq_true rfl) ?_
  intro p e s m below meth c hx hb hr hml hts hown hlocks hP hK hN ls hl
  have hown : s.vm.findClass RX5 = some m.cls := hown
  have hl : lv_has ls 4 [(0, .ref om), (1, .int (bI b))] := hl
  have hw7 := hts (.fieldLink RX5 7 "CornerLabelsModel" "s" "[I") (by decide +kernel)
  have hinX5 : ∀ w ∈ u_ws RX5 TX5 16, w ∈ wsX5_weightOf := by decide +kernel
  refine lv_iconst (v := 0) hx hb dX5_weightOf_0 (by decide) ?_
  refine lv_istore_n (lv' := [(2, .int 0), (0, .ref om), (1, .int (bI b))]) hx hb dX5_weightOf_1 rfl hl (by decide) rfl (fun ls hl => ?_)
  refine lv_iconst (v := 0) hx hb dX5_weightOf_2 (by decide) ?_
  refine lv_istore_n (lv' := [(3, .int 0), (2, .int 0), (0, .ref om), (1, .int (bI b))]) hx hb dX5_weightOf_3 rfl hl (by decide) rfl (fun ls hl => ?_)
  suffices loop4 : ∀ (k4 i : Nat) (a : Int32) (ls : Array Slot), i ≤ n → n + 1 ≤ i + k4 → (mW n P b = gF n (mWF P b) i a) → lv_has ls 4 [(0, .ref om), (1, .int (bI b)), (2, .int a), (3, .int (nI i))] → rd_W p l e wsX5_weightOf ({ frames := 2, cells := 0, slots := 0, locals := 43 } : Room) s m [.ref om, .int (bI b)] below meth c (mW n P b) (F0 m 4 ls []) from
    loop4 (n + 1) 0 0 ls (by omega) (by omega) (by rfl) (lv_sub hl [2, 3, 1, 0] rfl)
  intro k4
  induction k4 with
  | zero => intro i a ls h1 h2; exact absurd h2 (by omega)
  | succ k4 ih4 =>
    intro i a ls hle4 hlt4 inv4 hl
    refine lv_iload_n hx hb dX5_weightOf_4 rfl (lv_at hl 3 rfl) ?_
    refine lv_aload_n hx hb dX5_weightOf_5 rfl (lv_at hl 0 rfl) ?_
    refine va_get (D := D) (ci := 5) (v := .ref os) (C := RX5) (T := TX5) (N := 16) hx hb hts hinX5 hown hK hP qm hqm rfl 1 (by decide) hw7 (fun _ h9 => h9) hfs dX5_weightOf_6 ?_
    refine lv_iconst (v := 0) hx hb dX5_weightOf_9 (by decide) ?_
    refine rd_ald (q0 := qs) (t0 := t0) (j := 0) (v := nI n) hx hb hK hP hqs ht0 (rfl) (by omega) (by decide) (hS0) dX5_weightOf_10 ?_
    refine rd_icmp_ge_n (a := i) (b := n) (tgt := 51) (by omega) (by omega) hx hb dX5_weightOf_11 (by decide) (fun c_11 => ?_) (fun c_11 => ?_)
    · have c_11n := Nat.not_lt.mpr c_11
      refine lv_iload_n hx hb dX5_weightOf_51 rfl (lv_at hl 2 rfl) ?_
      exact rd_iret hx hb hr hlocks dX5_weightOf_52 (by rw [inv4, gF_end c_11])
    · have c_11n := Nat.not_le.mpr c_11
      refine lv_iload_n hx hb dX5_weightOf_14 rfl (lv_at hl 2 rfl) ?_
      refine lv_aload_n hx hb dX5_weightOf_15 rfl (lv_at hl 0 rfl) ?_
      refine lv_iload_n hx hb dX5_weightOf_16 rfl (lv_at hl 3 rfl) ?_
      refine rd_callV (As := [.int (nI i)]) (rest := [.int a]) ⟨hx, hb, hml, hown, hts⟩ (c_X5_cornerOf l D hmd c_11) (cwV 1 hts gX5_weightOf_X5_cornerOf rfl rfl rfl (by decide +kernel) ⟨by decide, by decide⟩) hK hN hP hqm rfl rfl hl.1 rfl (Nat.le_of_ble_eq_true rfl) ⟨by decide, by decide⟩ dX5_weightOf_17 ?_
      refine lv_iconst (v := (-1)) hx hb dX5_weightOf_20 (by decide) ?_
      refine lv_icmp_eq (tgt := 28) hx hb dX5_weightOf_21 (by decide) (fun c_21 => ?_) (fun c_21 => ?_)
      · refine lv_iconst (v := 0) hx hb dX5_weightOf_28 (by decide) ?_
        refine lv_iload_n hx hb dX5_weightOf_29 rfl (lv_at hl 1 rfl) ?_
        refine lv_icmp_ne (tgt := 42) hx hb dX5_weightOf_30 (by decide) (fun c_30 => ?_) (fun c_30 => ?_)
        · refine lv_iconst (v := 0) hx hb dX5_weightOf_42 (by decide) ?_
          refine lv_iadd hx hb dX5_weightOf_43 ?_
          refine lv_istore_n (lv' := [(2, .int (a + 0)), (0, .ref om), (1, .int (bI b)), (3, .int (nI i))]) hx hb dX5_weightOf_44 rfl hl (by decide) rfl (fun ls hl => ?_)
          refine lv_iinc (v := nI (i + 1)) (lv' := [(3, .int (nI (i + 1))), (2, .int (a + 0)), (0, .ref om), (1, .int (bI b))]) hx hb dX5_weightOf_45 hl (k := 3) rfl (nI_add i 1) (by decide) rfl (fun ls hl => ?_)
          refine lv_goto (tgt := 4) hx hb dX5_weightOf_48 (by decide) ?_
          exact ih4 (i + 1) (a + 0) ls (by omega) (by omega) (by rw [inv4, gF_step c_11]; simp [mWF, gSt, c_11n, c_21, bI_0t c_30]) (lv_sub hl [2, 3, 1, 0] rfl)
        · refine lv_aload_n hx hb dX5_weightOf_33 rfl (lv_at hl 0 rfl) ?_
          refine lv_iload_n hx hb dX5_weightOf_34 rfl (lv_at hl 3 rfl) ?_
          refine lv_iconst (v := 4) hx hb dX5_weightOf_35 (by decide) ?_
          refine rd_callV (As := [.int (nI i), .int 4]) (rest := [.int a]) ⟨hx, hb, hml, hown, hts⟩ (c_X5_of l D hmd c_11 (k := 4) (by decide)) (cwV 2 hts gX5_weightOf_X5_of rfl rfl rfl (by decide +kernel) ⟨by decide, by decide⟩) hK hN hP hqm rfl rfl hl.1 rfl (Nat.le_of_ble_eq_true rfl) ⟨by decide, by decide⟩ dX5_weightOf_36 ?_
          refine lv_asi (y := P i 4) (rfl) ?_
          refine lv_goto (tgt := 43) hx hb dX5_weightOf_39 (by decide) ?_
          refine lv_iadd hx hb dX5_weightOf_43 ?_
          refine lv_istore_n (lv' := [(2, .int (a + (P i 4))), (0, .ref om), (1, .int (bI b)), (3, .int (nI i))]) hx hb dX5_weightOf_44 rfl hl (by decide) rfl (fun ls hl => ?_)
          refine lv_iinc (v := nI (i + 1)) (lv' := [(3, .int (nI (i + 1))), (2, .int (a + (P i 4))), (0, .ref om), (1, .int (bI b))]) hx hb dX5_weightOf_45 hl (k := 3) rfl (nI_add i 1) (by decide) rfl (fun ls hl => ?_)
          refine lv_goto (tgt := 4) hx hb dX5_weightOf_48 (by decide) ?_
          exact ih4 (i + 1) (a + (P i 4)) ls (by omega) (by omega) (by rw [inv4, gF_step c_11]; simp [mWF, gSt, c_11n, c_21, bI_0f c_30]) (lv_sub hl [2, 3, 1, 0] rfl)
      · refine lv_iconst (v := 1) hx hb dX5_weightOf_24 (by decide) ?_
        refine lv_goto (tgt := 29) hx hb dX5_weightOf_25 (by decide) ?_
        refine lv_iload_n hx hb dX5_weightOf_29 rfl (lv_at hl 1 rfl) ?_
        refine lv_icmp_ne (tgt := 42) hx hb dX5_weightOf_30 (by decide) (fun c_30 => ?_) (fun c_30 => ?_)
        · refine lv_iconst (v := 0) hx hb dX5_weightOf_42 (by decide) ?_
          refine lv_iadd hx hb dX5_weightOf_43 ?_
          refine lv_istore_n (lv' := [(2, .int (a + 0)), (0, .ref om), (1, .int (bI b)), (3, .int (nI i))]) hx hb dX5_weightOf_44 rfl hl (by decide) rfl (fun ls hl => ?_)
          refine lv_iinc (v := nI (i + 1)) (lv' := [(3, .int (nI (i + 1))), (2, .int (a + 0)), (0, .ref om), (1, .int (bI b))]) hx hb dX5_weightOf_45 hl (k := 3) rfl (nI_add i 1) (by decide) rfl (fun ls hl => ?_)
          refine lv_goto (tgt := 4) hx hb dX5_weightOf_48 (by decide) ?_
          exact ih4 (i + 1) (a + 0) ls (by omega) (by omega) (by rw [inv4, gF_step c_11]; simp [mWF, gSt, c_11n, c_21, bI_1t c_30]) (lv_sub hl [2, 3, 1, 0] rfl)
        · refine lv_aload_n hx hb dX5_weightOf_33 rfl (lv_at hl 0 rfl) ?_
          refine lv_iload_n hx hb dX5_weightOf_34 rfl (lv_at hl 3 rfl) ?_
          refine lv_iconst (v := 4) hx hb dX5_weightOf_35 (by decide) ?_
          refine rd_callV (As := [.int (nI i), .int 4]) (rest := [.int a]) ⟨hx, hb, hml, hown, hts⟩ (c_X5_of l D hmd c_11 (k := 4) (by decide)) (cwV 2 hts gX5_weightOf_X5_of rfl rfl rfl (by decide +kernel) ⟨by decide, by decide⟩) hK hN hP hqm rfl rfl hl.1 rfl (Nat.le_of_ble_eq_true rfl) ⟨by decide, by decide⟩ dX5_weightOf_36 ?_
          refine lv_asi (y := P i 4) (rfl) ?_
          refine lv_goto (tgt := 43) hx hb dX5_weightOf_39 (by decide) ?_
          refine lv_iadd hx hb dX5_weightOf_43 ?_
          refine lv_istore_n (lv' := [(2, .int (a + (P i 4))), (0, .ref om), (1, .int (bI b)), (3, .int (nI i))]) hx hb dX5_weightOf_44 rfl hl (by decide) rfl (fun ls hl => ?_)
          refine lv_iinc (v := nI (i + 1)) (lv' := [(3, .int (nI (i + 1))), (2, .int (a + (P i 4))), (0, .ref om), (1, .int (bI b))]) hx hb dX5_weightOf_45 hl (k := 3) rfl (nI_add i 1) (by decide) rfl (fun ls hl => ?_)
          refine lv_goto (tgt := 4) hx hb dX5_weightOf_48 (by decide) ?_
          exact ih4 (i + 1) (a + (P i 4)) ls (by omega) (by omega) (by rw [inv4, gF_step c_11]; simp [mWF, gSt, c_11n, c_21, bI_1f c_30]) (lv_sub hl [2, 3, 1, 0] rfl)
set_option maxHeartbeats 4000000 in
set_option maxRecDepth 100000 in
theorem c_X5_mayClash (l : Launch) (D : va_G) {w : va_W} {tys : List (ClassId × FieldType)} {om n : Nat} {P : Nat → Nat → Int32} (hmd : md_in w tys om n P) {i : Nat} (hi : i < n) {j : Nat} (hj : j < n) : rd_M l yX5_mayClash wsX5_mayClash ({ frames := 5, cells := 0, slots := 0, locals := 114 } : Room) D w tys [.ref om, .int (nI i), .int (nI j)] (bI (mMy n P i j)) := by
  obtain ⟨qm, qs, t0, os, cI, S, fs, hqm, hfs, hqs, ht0, hn8, hS0, hS, hbk⟩ := id hmd
  refine rd_of (cc := cX5_mayClash) (maxL := 5) (ret := some .boolean) (by decide) rfl (Nat.le_of_ble_eq_true rfl) ?_
  intro p e s m below meth c hx hb hr hml hts hown hlocks hP hK hN ls hl
  have hown : s.vm.findClass RX5 = some m.cls := hown
  have hl : lv_has ls 5 [(0, .ref om), (1, .int (nI i)), (2, .int (nI j))] := hl
  refine lv_iconst (v := 0) hx hb dX5_mayClash_0 (by decide) ?_
  refine lv_istore_n (lv' := [(3, .int 0), (0, .ref om), (1, .int (nI i)), (2, .int (nI j))]) hx hb dX5_mayClash_1 rfl hl (by decide) rfl (fun ls hl => ?_)
  refine lv_iconst (v := 0) hx hb dX5_mayClash_2 (by decide) ?_
  refine lv_istore (lv' := [(4, .int 0), (3, .int 0), (0, .ref om), (1, .int (nI i)), (2, .int (nI j))]) hx hb dX5_mayClash_3 hl (by decide) rfl (fun ls hl => ?_)
  suffices loop5 : ∀ (k5 k : Nat) (b : Bool) (ls : Array Slot), k ≤ 16 → 16 + 1 ≤ k + k5 → (mMy n P i j = (b || gE 16 (mMC n P i j) k)) → lv_has ls 5 [(0, .ref om), (1, .int (nI i)), (2, .int (nI j)), (3, .int (bI b)), (4, .int (nI k))] → rd_W p l e wsX5_mayClash ({ frames := 5, cells := 0, slots := 0, locals := 114 } : Room) s m [.ref om, .int (nI i), .int (nI j)] below meth c (bI (mMy n P i j)) (F0 m 5 ls []) from
    loop5 (16 + 1) 0 false ls (by omega) (by omega) (by rfl) (lv_sub hl [2, 3, 4, 1, 0] rfl)
  intro k5
  induction k5 with
  | zero => intro k b ls h1 h2; exact absurd h2 (by omega)
  | succ k5 ih5 =>
    intro k b ls hle5 hlt5 inv5 hl
    refine lv_iload hx hb dX5_mayClash_5 (lv_at hl 4 rfl) ?_
    refine lv_bipush (v := 16) hx hb dX5_mayClash_7 (by decide) ?_
    refine rd_icmp_ge_n (a := k) (b := 16) (tgt := 69) (by omega) (by omega) hx hb dX5_mayClash_9 (by decide) (fun c_9 => ?_) (fun c_9 => ?_)
    · have c_9n := Nat.not_lt.mpr c_9
      refine lv_iload_n hx hb dX5_mayClash_69 rfl (lv_at hl 3 rfl) ?_
      exact rd_zret hx hb hr hlocks dX5_mayClash_70 (by rw [inv5, gE_end (n := 16) c_9]; simp)
    · have c_9n := Nat.not_le.mpr c_9
      refine lv_iload_n hx hb dX5_mayClash_12 rfl (lv_at hl 3 rfl) ?_
      refine rd_ifne_b (tgt := 57) hx hb dX5_mayClash_13 (by decide) (fun c_13 => ?_) (fun c_13 => ?_)
      · refine lv_iconst (v := 1) hx hb dX5_mayClash_57 (by decide) ?_
        refine lv_goto (tgt := 62) hx hb dX5_mayClash_58 (by decide) ?_
        refine lv_istore_n (lv' := [(3, .int 1), (0, .ref om), (1, .int (nI i)), (2, .int (nI j)), (4, .int (nI k))]) hx hb dX5_mayClash_62 rfl hl (by decide) rfl (fun ls hl => ?_)
        refine lv_iinc (v := nI (k + 1)) (lv' := [(4, .int (nI (k + 1))), (3, .int 1), (0, .ref om), (1, .int (nI i)), (2, .int (nI j))]) hx hb dX5_mayClash_63 hl (k := 4) rfl (nI_add k 1) (by decide) rfl (fun ls hl => ?_)
        refine lv_goto (tgt := 5) hx hb dX5_mayClash_66 (by decide) ?_
        exact ih5 (k + 1) true ls (by omega) (by omega) (by rw [inv5, gE_step (n := 16) c_9]; simp [mMC, bI, c_9n, c_13]) (lv_sub hl [2, 3, 4, 1, 0] rfl)
      · refine lv_aload_n hx hb dX5_mayClash_16 rfl (lv_at hl 0 rfl) ?_
        refine lv_iload_n hx hb dX5_mayClash_17 rfl (lv_at hl 1 rfl) ?_
        refine lv_iload hx hb dX5_mayClash_18 (lv_at hl 4 rfl) ?_
        refine lv_iconst (v := 4) hx hb dX5_mayClash_20 (by decide) ?_
        refine lv_idiv hx hb dX5_mayClash_21 (by decide) ?_
        refine lv_asi (y := nI (k / 4)) (pk_div (a := k) (d := 4) (by omega) (by omega) (by omega)) ?_
        refine rd_callV (As := [.int (nI i), .int (nI (k / 4))]) (rest := []) ⟨hx, hb, hml, hown, hts⟩ (c_X5_isOpen l D hmd hi (ok4_nI (by omega))) (cwV 2 hts gX5_mayClash_X5_isOpen rfl rfl rfl (by decide +kernel) ⟨by decide, by decide⟩) hK hN hP hqm rfl rfl hl.1 rfl (Nat.le_of_ble_eq_true rfl) ⟨by decide, by decide⟩ dX5_mayClash_22 ?_
        refine rd_ifeq_b (tgt := 61) hx hb dX5_mayClash_25 (by decide) (fun c_25 => ?_) (fun c_25 => ?_)
        · refine lv_iconst (v := 0) hx hb dX5_mayClash_61 (by decide) ?_
          refine lv_istore_n (lv' := [(3, .int 0), (0, .ref om), (1, .int (nI i)), (2, .int (nI j)), (4, .int (nI k))]) hx hb dX5_mayClash_62 rfl hl (by decide) rfl (fun ls hl => ?_)
          refine lv_iinc (v := nI (k + 1)) (lv' := [(4, .int (nI (k + 1))), (3, .int 0), (0, .ref om), (1, .int (nI i)), (2, .int (nI j))]) hx hb dX5_mayClash_63 hl (k := 4) rfl (nI_add k 1) (by decide) rfl (fun ls hl => ?_)
          refine lv_goto (tgt := 5) hx hb dX5_mayClash_66 (by decide) ?_
          exact ih5 (k + 1) false ls (by omega) (by omega) (by rw [inv5, gE_step (n := 16) c_9]; simp [mMC, bI, c_9n, c_13, c_25]) (lv_sub hl [2, 3, 4, 1, 0] rfl)
        · refine lv_aload_n hx hb dX5_mayClash_28 rfl (lv_at hl 0 rfl) ?_
          refine lv_iload_n hx hb dX5_mayClash_29 rfl (lv_at hl 2 rfl) ?_
          refine lv_iload hx hb dX5_mayClash_30 (lv_at hl 4 rfl) ?_
          refine lv_iconst (v := 4) hx hb dX5_mayClash_32 (by decide) ?_
          refine lv_irem hx hb dX5_mayClash_33 (by decide) ?_
          refine lv_asi (y := nI (k % 4)) (pk_rem (a := k) (d := 4) (by omega) (by omega) (by omega)) ?_
          refine rd_callV (As := [.int (nI j), .int (nI (k % 4))]) (rest := []) ⟨hx, hb, hml, hown, hts⟩ (c_X5_isOpen l D hmd hj (ok4_nI (by omega))) (cwV 2 hts gX5_mayClash_X5_isOpen rfl rfl rfl (by decide +kernel) ⟨by decide, by decide⟩) hK hN hP hqm rfl rfl hl.1 rfl (Nat.le_of_ble_eq_true rfl) ⟨by decide, by decide⟩ dX5_mayClash_34 ?_
          refine rd_ifeq_b (tgt := 61) hx hb dX5_mayClash_37 (by decide) (fun c_37 => ?_) (fun c_37 => ?_)
          · refine lv_iconst (v := 0) hx hb dX5_mayClash_61 (by decide) ?_
            refine lv_istore_n (lv' := [(3, .int 0), (0, .ref om), (1, .int (nI i)), (2, .int (nI j)), (4, .int (nI k))]) hx hb dX5_mayClash_62 rfl hl (by decide) rfl (fun ls hl => ?_)
            refine lv_iinc (v := nI (k + 1)) (lv' := [(4, .int (nI (k + 1))), (3, .int 0), (0, .ref om), (1, .int (nI i)), (2, .int (nI j))]) hx hb dX5_mayClash_63 hl (k := 4) rfl (nI_add k 1) (by decide) rfl (fun ls hl => ?_)
            refine lv_goto (tgt := 5) hx hb dX5_mayClash_66 (by decide) ?_
            exact ih5 (k + 1) false ls (by omega) (by omega) (by rw [inv5, gE_step (n := 16) c_9]; simp [mMC, bI, c_9n, c_13, c_25, c_37]) (lv_sub hl [2, 3, 4, 1, 0] rfl)
          · refine lv_aload_n hx hb dX5_mayClash_40 rfl (lv_at hl 0 rfl) ?_
            refine lv_iload_n hx hb dX5_mayClash_41 rfl (lv_at hl 1 rfl) ?_
            refine lv_iload hx hb dX5_mayClash_42 (lv_at hl 4 rfl) ?_
            refine lv_iconst (v := 4) hx hb dX5_mayClash_44 (by decide) ?_
            refine lv_idiv hx hb dX5_mayClash_45 (by decide) ?_
            refine lv_asi (y := nI (k / 4)) (pk_div (a := k) (d := 4) (by omega) (by omega) (by omega)) ?_
            refine lv_iload_n hx hb dX5_mayClash_46 rfl (lv_at hl 2 rfl) ?_
            refine lv_iload hx hb dX5_mayClash_47 (lv_at hl 4 rfl) ?_
            refine lv_iconst (v := 4) hx hb dX5_mayClash_49 (by decide) ?_
            refine lv_irem hx hb dX5_mayClash_50 (by decide) ?_
            refine lv_asi (y := nI (k % 4)) (pk_rem (a := k) (d := 4) (by omega) (by omega) (by omega)) ?_
            refine rd_callV (As := [.int (nI i), .int (nI (k / 4)), .int (nI j), .int (nI (k % 4))]) (rest := []) ⟨hx, hb, hml, hown, hts⟩ (c_X5_common l D hmd hi (ok4_nI (by omega)) hj (ok4_nI (by omega))) (cwV 4 hts gX5_mayClash_X5_common rfl rfl rfl (by decide +kernel) ⟨by decide, by decide⟩) hK hN hP hqm rfl rfl hl.1 rfl (Nat.le_of_ble_eq_true rfl) ⟨by decide, by decide⟩ dX5_mayClash_51 ?_
            refine lv_if_le (tgt := 61) hx hb dX5_mayClash_54 (by decide) (fun c_54 => ?_) (fun c_54 => ?_)
            · have c_54n := Int32.not_lt.mpr c_54
              refine lv_iconst (v := 0) hx hb dX5_mayClash_61 (by decide) ?_
              refine lv_istore_n (lv' := [(3, .int 0), (0, .ref om), (1, .int (nI i)), (2, .int (nI j)), (4, .int (nI k))]) hx hb dX5_mayClash_62 rfl hl (by decide) rfl (fun ls hl => ?_)
              refine lv_iinc (v := nI (k + 1)) (lv' := [(4, .int (nI (k + 1))), (3, .int 0), (0, .ref om), (1, .int (nI i)), (2, .int (nI j))]) hx hb dX5_mayClash_63 hl (k := 4) rfl (nI_add k 1) (by decide) rfl (fun ls hl => ?_)
              refine lv_goto (tgt := 5) hx hb dX5_mayClash_66 (by decide) ?_
              exact ih5 (k + 1) false ls (by omega) (by omega) (by rw [inv5, gE_step (n := 16) c_9]; simp [mMC, bI, c_9n, c_13, c_25, c_37, c_54, c_54n]) (lv_sub hl [2, 3, 4, 1, 0] rfl)
            · have c_54n := Int32.not_le.mp c_54
              refine lv_iconst (v := 1) hx hb dX5_mayClash_57 (by decide) ?_
              refine lv_goto (tgt := 62) hx hb dX5_mayClash_58 (by decide) ?_
              refine lv_istore_n (lv' := [(3, .int 1), (0, .ref om), (1, .int (nI i)), (2, .int (nI j)), (4, .int (nI k))]) hx hb dX5_mayClash_62 rfl hl (by decide) rfl (fun ls hl => ?_)
              refine lv_iinc (v := nI (k + 1)) (lv' := [(4, .int (nI (k + 1))), (3, .int 1), (0, .ref om), (1, .int (nI i)), (2, .int (nI j))]) hx hb dX5_mayClash_63 hl (k := 4) rfl (nI_add k 1) (by decide) rfl (fun ls hl => ?_)
              refine lv_goto (tgt := 5) hx hb dX5_mayClash_66 (by decide) ?_
              exact ih5 (k + 1) true ls (by omega) (by omega) (by rw [inv5, gE_step (n := 16) c_9]; simp [mMC, bI, c_9n, c_13, c_25, c_37, c_54, c_54n]) (lv_sub hl [2, 3, 4, 1, 0] rfl)
set_option maxHeartbeats 4000000 in
set_option maxRecDepth 100000 in
theorem c_X5_clashing (l : Launch) (D : va_G) {w : va_W} {tys : List (ClassId × FieldType)} {om n : Nat} {P : Nat → Nat → Int32} (hmd : md_in w tys om n P) : rd_M l yX5_clashing wsX5_clashing ({ frames := 6, cells := 0, slots := 0, locals := 138 } : Room) D w tys [.ref om] (mCg n P) := by
  obtain ⟨qm, qs, t0, os, cI, S, fs, hqm, hfs, hqs, ht0, hn8, hS0, hS, hbk⟩ := id hmd
  refine rd_of (cc := cX5_clashing) (maxL := 4) (ret := some .int) (by decide) rfl (Nat.le_of_ble_eq_true rfl) ?_
  intro p e s m below meth c hx hb hr hml hts hown hlocks hP hK hN ls hl
  have hown : s.vm.findClass RX5 = some m.cls := hown
  have hl : lv_has ls 4 [(0, .ref om)] := hl
  have hw7 := hts (.fieldLink RX5 7 "CornerLabelsModel" "s" "[I") (by decide +kernel)
  have hinX5 : ∀ w ∈ u_ws RX5 TX5 16, w ∈ wsX5_clashing := by decide +kernel
  refine lv_iconst (v := 0) hx hb dX5_clashing_0 (by decide) ?_
  refine lv_istore_n (lv' := [(1, .int 0), (0, .ref om)]) hx hb dX5_clashing_1 rfl hl (by decide) rfl (fun ls hl => ?_)
  refine lv_iconst (v := 0) hx hb dX5_clashing_2 (by decide) ?_
  refine lv_istore_n (lv' := [(2, .int 0), (1, .int 0), (0, .ref om)]) hx hb dX5_clashing_3 rfl hl (by decide) rfl (fun ls hl => ?_)
  suffices loop4 : ∀ (k4 i : Nat) (a : Int32) (ls : Array Slot), i ≤ n → n + 1 ≤ i + k4 → (mCg n P = gF n (mCgR n P) i a) → lv_has ls 4 [(0, .ref om), (1, .int a), (2, .int (nI i))] → rd_W p l e wsX5_clashing ({ frames := 6, cells := 0, slots := 0, locals := 138 } : Room) s m [.ref om] below meth c (mCg n P) (F0 m 4 ls []) from
    loop4 (n + 1) 0 0 ls (by omega) (by omega) (by rfl) (lv_sub hl [2, 1, 0] rfl)
  intro k4
  induction k4 with
  | zero => intro i a ls h1 h2; exact absurd h2 (by omega)
  | succ k4 ih4 =>
    intro i a ls hle4 hlt4 inv4 hl
    refine lv_iload_n hx hb dX5_clashing_4 rfl (lv_at hl 2 rfl) ?_
    refine lv_aload_n hx hb dX5_clashing_5 rfl (lv_at hl 0 rfl) ?_
    refine va_get (D := D) (ci := 5) (v := .ref os) (C := RX5) (T := TX5) (N := 16) hx hb hts hinX5 hown hK hP qm hqm rfl 1 (by decide) hw7 (fun _ h9 => h9) hfs dX5_clashing_6 ?_
    refine lv_iconst (v := 0) hx hb dX5_clashing_9 (by decide) ?_
    refine rd_ald (q0 := qs) (t0 := t0) (j := 0) (v := nI n) hx hb hK hP hqs ht0 (rfl) (by omega) (by decide) (hS0) dX5_clashing_10 ?_
    refine rd_icmp_ge_n (a := i) (b := n) (tgt := 57) (by omega) (by omega) hx hb dX5_clashing_11 (by decide) (fun c_11 => ?_) (fun c_11 => ?_)
    · have c_11n := Nat.not_lt.mpr c_11
      refine lv_iload_n hx hb dX5_clashing_57 rfl (lv_at hl 1 rfl) ?_
      exact rd_iret hx hb hr hlocks dX5_clashing_58 (by rw [inv4, gF_end c_11])
    · have c_11n := Nat.not_le.mpr c_11
      refine lv_iload_n hx hb dX5_clashing_14 rfl (lv_at hl 2 rfl) ?_
      refine lv_iconst (v := 1) hx hb dX5_clashing_15 (by decide) ?_
      refine lv_iadd hx hb dX5_clashing_16 ?_
      refine lv_asi (y := nI (i + 1)) (nI_add i 1) ?_
      refine lv_istore_n (lv' := [(3, .int (nI (i + 1))), (0, .ref om), (1, .int a), (2, .int (nI i))]) hx hb dX5_clashing_17 rfl hl (by decide) rfl (fun ls hl => ?_)
      suffices loop18 : ∀ (k18 j : Nat) (a2 : Int32) (ls : Array Slot), j ≤ n → n + 1 ≤ j + k18 → (mCg n P = gF n (mCgR n P) (i + 1) (gF n (mCgF n P i) j a2)) → lv_has ls 4 [(0, .ref om), (1, .int a2), (2, .int (nI i)), (3, .int (nI j))] → rd_W p l e wsX5_clashing ({ frames := 6, cells := 0, slots := 0, locals := 138 } : Room) s m [.ref om] below meth c (mCg n P) (F0 m 18 ls []) from
        loop18 (n + 1) (i + 1) a ls (by omega) (by omega) (by rw [inv4, gF_step c_11]; rfl) (lv_sub hl [1, 2, 3, 0] rfl)
      intro k18
      induction k18 with
      | zero => intro j a2 ls h1 h2; exact absurd h2 (by omega)
      | succ k18 ih18 =>
        intro j a2 ls hle18 hlt18 inv18 hl
        refine lv_iload_n hx hb dX5_clashing_18 rfl (lv_at hl 3 rfl) ?_
        refine lv_aload_n hx hb dX5_clashing_19 rfl (lv_at hl 0 rfl) ?_
        refine va_get (D := D) (ci := 5) (v := .ref os) (C := RX5) (T := TX5) (N := 16) hx hb hts hinX5 hown hK hP qm hqm rfl 1 (by decide) hw7 (fun _ h9 => h9) hfs dX5_clashing_20 ?_
        refine lv_iconst (v := 0) hx hb dX5_clashing_23 (by decide) ?_
        refine rd_ald (q0 := qs) (t0 := t0) (j := 0) (v := nI n) hx hb hK hP hqs ht0 (rfl) (by omega) (by decide) (hS0) dX5_clashing_24 ?_
        refine rd_icmp_ge_n (a := j) (b := n) (tgt := 51) (by omega) (by omega) hx hb dX5_clashing_25 (by decide) (fun c_25 => ?_) (fun c_25 => ?_)
        · have c_25n := Nat.not_lt.mpr c_25
          refine lv_iinc (v := nI (i + 1)) (lv' := [(2, .int (nI (i + 1))), (0, .ref om), (1, .int a2), (3, .int (nI j))]) hx hb dX5_clashing_51 hl (k := 2) rfl (nI_add i 1) (by decide) rfl (fun ls hl => ?_)
          refine lv_goto (tgt := 4) hx hb dX5_clashing_54 (by decide) ?_
          exact ih4 (i + 1) a2 ls (by omega) (by omega) (by rw [inv18, gF_end c_25]) (lv_sub hl [1, 2, 0] rfl)
        · have c_25n := Nat.not_le.mpr c_25
          refine lv_iload_n hx hb dX5_clashing_28 rfl (lv_at hl 1 rfl) ?_
          refine lv_aload_n hx hb dX5_clashing_29 rfl (lv_at hl 0 rfl) ?_
          refine lv_iload_n hx hb dX5_clashing_30 rfl (lv_at hl 2 rfl) ?_
          refine lv_iload_n hx hb dX5_clashing_31 rfl (lv_at hl 3 rfl) ?_
          refine rd_callV (As := [.int (nI i), .int (nI j)]) (rest := [.int a2]) ⟨hx, hb, hml, hown, hts⟩ (c_X5_mayClash l D hmd c_11 c_25) (cwV 2 hts gX5_clashing_X5_mayClash rfl rfl rfl (by decide +kernel) ⟨by decide, by decide⟩) hK hN hP hqm rfl rfl hl.1 rfl (Nat.le_of_ble_eq_true rfl) ⟨by decide, by decide⟩ dX5_clashing_32 ?_
          refine rd_ifeq_b (tgt := 42) hx hb dX5_clashing_35 (by decide) (fun c_35 => ?_) (fun c_35 => ?_)
          · refine lv_iconst (v := 0) hx hb dX5_clashing_42 (by decide) ?_
            refine lv_iadd hx hb dX5_clashing_43 ?_
            refine lv_istore_n (lv' := [(1, .int (a2 + 0)), (0, .ref om), (2, .int (nI i)), (3, .int (nI j))]) hx hb dX5_clashing_44 rfl hl (by decide) rfl (fun ls hl => ?_)
            refine lv_iinc (v := nI (j + 1)) (lv' := [(3, .int (nI (j + 1))), (1, .int (a2 + 0)), (0, .ref om), (2, .int (nI i))]) hx hb dX5_clashing_45 hl (k := 3) rfl (nI_add j 1) (by decide) rfl (fun ls hl => ?_)
            refine lv_goto (tgt := 18) hx hb dX5_clashing_48 (by decide) ?_
            exact ih18 (j + 1) (a2 + 0) ls (by omega) (by omega) (by rw [inv18, gF_step c_25]; simp [mCgF, c_35]) (lv_sub hl [2, 1, 3, 0] rfl)
          · refine lv_iconst (v := 1) hx hb dX5_clashing_38 (by decide) ?_
            refine lv_goto (tgt := 43) hx hb dX5_clashing_39 (by decide) ?_
            refine lv_iadd hx hb dX5_clashing_43 ?_
            refine lv_istore_n (lv' := [(1, .int (a2 + 1)), (0, .ref om), (2, .int (nI i)), (3, .int (nI j))]) hx hb dX5_clashing_44 rfl hl (by decide) rfl (fun ls hl => ?_)
            refine lv_iinc (v := nI (j + 1)) (lv' := [(3, .int (nI (j + 1))), (1, .int (a2 + 1)), (0, .ref om), (2, .int (nI i))]) hx hb dX5_clashing_45 hl (k := 3) rfl (nI_add j 1) (by decide) rfl (fun ls hl => ?_)
            refine lv_goto (tgt := 18) hx hb dX5_clashing_48 (by decide) ?_
            exact ih18 (j + 1) (a2 + 1) ls (by omega) (by omega) (by rw [inv18, gF_step c_25]; simp [mCgF, c_35]) (lv_sub hl [2, 1, 3, 0] rfl)
set_option maxHeartbeats 4000000 in
set_option maxRecDepth 100000 in
theorem c_X5_counts (l : Launch) (D : va_G) {om xS xV xB xT xA xP xR : Nat} {cI : ClassId} {thr kLn kBs kLf kAt kWl kRm : Int32} {hsh : Int64} {mS mSv mBf mTl mAl mPl mRd : Nat → Int32} {n : Nat} {P : Nat → Nat → Int32} {q : Nat} (hq6 : q ≤ 6) (hn8 : n ≤ 8) (hQ : mdS n P mS) (hbk : bd_ok n P) {k : Nat} (hk : k < 9) : wr_M l yX5_counts wsX5_counts ({ frames := 7, cells := 0, slots := 0, locals := 161 } : Room) D (MdW om xS xV xB xT xA xP xR cI thr mS mSv (nI q) mBf kLn mTl mAl mPl kBs kLf kAt kWl mRd kRm hsh) [(cI, .int)] [.ref om, .int (nI k)] (fun v w9 => v = some (.int (mCnt n P (nI q) k)) ∧ w9 = MdW om xS xV xB xT xA xP xR cI thr mS mSv (nI q) mBf kLn mTl mAl mPl kBs kLf kAt kWl mRd kRm hsh) := by
  refine wr_of (cc := cX5_counts) (maxL := 2) (ret := some .int) (by decide) rfl (Nat.le_of_ble_eq_true rfl) ?_
  intro p e s m below meth c hx hb hr hml hts hown hlocks hP hK hN hZ hD hS ls hl
  have hown : s.vm.findClass RX5 = some m.cls := hown
  have hl : lv_has ls 2 [(0, .ref om), (1, .int (nI k))] := hl
  have hinX5 : ∀ w ∈ u_ws RX5 TX5 16, w ∈ wsX5_counts := by decide +kernel
  have hw7 := hts (.fieldLink RX5 7 "CornerLabelsModel" "s" "[I") (by decide +kernel)
  have hw43 := hts (.fieldLink RX5 43 "CornerLabelsModel" "savedMany" "I") (by decide +kernel)
  suffices body : ∀ (H : Heap) (locs : List Loc), va_P D vwCl (MdW om xS xV xB xT xA xP xR cI thr mS mSv (nI q) mBf kLn mTl mAl mPl kBs kLf kAt kWl mRd kRm hsh) H → va_D (wr_in (MdW om xS xV xB xT xA xP xR cI thr mS mSv (nI q) mBf kLn mTl mAl mPl kBs kLf kAt kWl mRd kRm hsh)) (MdW om xS xV xB xT xA xP xR cI thr mS mSv (nI q) mBf kLn mTl mAl mPl kBs kLf kAt kWl mRd kRm hsh) → va_S (wr_in (MdW om xS xV xB xT xA xP xR cI thr mS mSv (nI q) mBf kLn mTl mAl mPl kBs kLf kAt kWl mRd kRm hsh)) s.heap H locs → wr_W p l e wsX5_counts ({ frames := 7, cells := 0, slots := 0, locals := 161 } : Room) s m [.ref om, .int (nI k)] below meth c D (MdW om xS xV xB xT xA xP xR cI thr mS mSv (nI q) mBf kLn mTl mAl mPl kBs kLf kAt kWl mRd kRm hsh) (fun v w9 => v = some (.int (mCnt n P (nI q) k)) ∧ w9 = MdW om xS xV xB xT xA xP xR cI thr mS mSv (nI q) mBf kLn mTl mAl mPl kBs kLf kAt kWl mRd kRm hsh) H locs (F0 m 0 ls []) from body _ _ hP hD hS
  clear hP hD hS
  intro H locs hP hD hS
  refine lv_iload_n hx hb dX5_counts_0 rfl (lv_at hl 1 rfl) ?_
  rcases (show k = 0 ∨ k = 1 ∨ k = 2 ∨ k = 3 ∨ k = 4 ∨ k = 5 ∨ k = 6 ∨ k = 7 ∨ k = 8 by omega) with rfl | rfl | rfl | rfl | rfl | rfl | rfl | rfl | rfl
  · refine lv_tableIn (tgt := 48) hx hb dX5_counts_1 (by decide) (by decide) rfl (by decide) ?_
    refine lv_aload_n hx hb dX5_counts_48 rfl (lv_at hl 0 rfl) ?_
    refine va_get (D := D) (ci := 5) (v := .ref xS) (C := RX5) (T := TX5) (N := 16) hx hb hts hinX5 hown hK hP 0 rfl rfl 1 (by decide) hw7 (fun _ h9 => h9) rfl dX5_counts_49 ?_
    refine lv_iconst (v := 0) hx hb dX5_counts_52 (by decide) ?_
    refine rd_ald (q0 := 1) (t0 := 0) (j := 0) (v := nI n) hx hb hK hP rfl rfl (rfl) (by omega) (by decide) (hQ.1) dX5_counts_53 ?_
    exact wr_iret hx hb hr hlocks hP hS rfl dX5_counts_54 (by exact ⟨rfl, rfl⟩)
  · refine lv_tableIn (tgt := 55) hx hb dX5_counts_1 (by decide) (by decide) rfl (by decide) ?_
    refine lv_aload_n hx hb dX5_counts_55 rfl (lv_at hl 0 rfl) ?_
    have hmd : md_in (MdW om xS xV xB xT xA xP xR cI thr mS mSv (nI q) mBf kLn mTl mAl mPl kBs kLf kAt kWl mRd kRm hsh) [(cI, .int)] om n P := ⟨0, 1, 0, xS, cI, mS, _, rfl, rfl, rfl, rfl, hn8, hQ.1, hQ.2, hbk⟩
    refine rd_callV (As := []) (rest := []) ⟨hx, hb, hml, hown, hts⟩ (c_X5_standing l D hmd) (cwV 0 hts gX5_counts_X5_standing rfl rfl rfl (by decide +kernel) ⟨by decide, by decide⟩) hK hN hP (q0 := 0) rfl rfl rfl hl.1 rfl (Nat.le_of_ble_eq_true rfl) ⟨by decide, by decide⟩ dX5_counts_56 ?_
    exact wr_iret hx hb hr hlocks hP hS rfl dX5_counts_59 (by exact ⟨rfl, rfl⟩)
  · refine lv_tableIn (tgt := 60) hx hb dX5_counts_1 (by decide) (by decide) rfl (by decide) ?_
    refine lv_aload_n hx hb dX5_counts_60 rfl (lv_at hl 0 rfl) ?_
    refine lv_iload_n hx hb dX5_counts_61 rfl (lv_at hl 1 rfl) ?_
    refine lv_iconst (v := 2) hx hb dX5_counts_62 (by decide) ?_
    refine lv_icmp_ne (tgt := 70) hx hb dX5_counts_63 (by decide) (fun h9 => absurd (by decide) h9) (fun _ => ?_)
    refine lv_iconst (v := 1) hx hb dX5_counts_66 (by decide) ?_
    refine lv_goto (tgt := 71) hx hb dX5_counts_67 (by decide) ?_
    have hmd : md_in (MdW om xS xV xB xT xA xP xR cI thr mS mSv (nI q) mBf kLn mTl mAl mPl kBs kLf kAt kWl mRd kRm hsh) [(cI, .int)] om n P := ⟨0, 1, 0, xS, cI, mS, _, rfl, rfl, rfl, rfl, hn8, hQ.1, hQ.2, hbk⟩
    refine rd_callV (As := [.int 1]) (rest := []) ⟨hx, hb, hml, hown, hts⟩ (c_X5_weightOf l D hmd true) (cwV 1 hts gX5_counts_X5_weightOf rfl rfl rfl (by decide +kernel) ⟨by decide, by decide⟩) hK hN hP (q0 := 0) rfl rfl rfl hl.1 rfl (Nat.le_of_ble_eq_true rfl) ⟨by decide, by decide⟩ dX5_counts_71 ?_
    exact wr_iret hx hb hr hlocks hP hS rfl dX5_counts_74 (by exact ⟨rfl, rfl⟩)
  · refine lv_tableIn (tgt := 60) hx hb dX5_counts_1 (by decide) (by decide) rfl (by decide) ?_
    refine lv_aload_n hx hb dX5_counts_60 rfl (lv_at hl 0 rfl) ?_
    refine lv_iload_n hx hb dX5_counts_61 rfl (lv_at hl 1 rfl) ?_
    refine lv_iconst (v := 2) hx hb dX5_counts_62 (by decide) ?_
    refine lv_icmp_ne (tgt := 70) hx hb dX5_counts_63 (by decide) (fun _ => ?_) (fun h9 => absurd h9 (by decide))
    refine lv_iconst (v := 0) hx hb dX5_counts_70 (by decide) ?_
    have hmd : md_in (MdW om xS xV xB xT xA xP xR cI thr mS mSv (nI q) mBf kLn mTl mAl mPl kBs kLf kAt kWl mRd kRm hsh) [(cI, .int)] om n P := ⟨0, 1, 0, xS, cI, mS, _, rfl, rfl, rfl, rfl, hn8, hQ.1, hQ.2, hbk⟩
    refine rd_callV (As := [.int 0]) (rest := []) ⟨hx, hb, hml, hown, hts⟩ (c_X5_weightOf l D hmd false) (cwV 1 hts gX5_counts_X5_weightOf rfl rfl rfl (by decide +kernel) ⟨by decide, by decide⟩) hK hN hP (q0 := 0) rfl rfl rfl hl.1 rfl (Nat.le_of_ble_eq_true rfl) ⟨by decide, by decide⟩ dX5_counts_71 ?_
    exact wr_iret hx hb hr hlocks hP hS rfl dX5_counts_74 (by exact ⟨rfl, rfl⟩)
  · refine lv_tableIn (tgt := 75) hx hb dX5_counts_1 (by decide) (by decide) rfl (by decide) ?_
    refine lv_aload_n hx hb dX5_counts_75 rfl (lv_at hl 0 rfl) ?_
    have hmd : md_in (MdW om xS xV xB xT xA xP xR cI thr mS mSv (nI q) mBf kLn mTl mAl mPl kBs kLf kAt kWl mRd kRm hsh) [(cI, .int)] om n P := ⟨0, 1, 0, xS, cI, mS, _, rfl, rfl, rfl, rfl, hn8, hQ.1, hQ.2, hbk⟩
    refine rd_callV (As := []) (rest := []) ⟨hx, hb, hml, hown, hts⟩ (c_X5_squares l D hmd) (cwV 0 hts gX5_counts_X5_squares rfl rfl rfl (by decide +kernel) ⟨by decide, by decide⟩) hK hN hP (q0 := 0) rfl rfl rfl hl.1 rfl (Nat.le_of_ble_eq_true rfl) ⟨by decide, by decide⟩ dX5_counts_76 ?_
    exact wr_iret hx hb hr hlocks hP hS rfl dX5_counts_79 (by exact ⟨rfl, rfl⟩)
  · refine lv_tableIn (tgt := 80) hx hb dX5_counts_1 (by decide) (by decide) rfl (by decide) ?_
    refine lv_aload_n hx hb dX5_counts_80 rfl (lv_at hl 0 rfl) ?_
    have hmd : md_in (MdW om xS xV xB xT xA xP xR cI thr mS mSv (nI q) mBf kLn mTl mAl mPl kBs kLf kAt kWl mRd kRm hsh) [(cI, .int)] om n P := ⟨0, 1, 0, xS, cI, mS, _, rfl, rfl, rfl, rfl, hn8, hQ.1, hQ.2, hbk⟩
    refine rd_callV (As := []) (rest := []) ⟨hx, hb, hml, hown, hts⟩ (c_X5_closedMany l D hmd) (cwV 0 hts gX5_counts_X5_closedMany rfl rfl rfl (by decide +kernel) ⟨by decide, by decide⟩) hK hN hP (q0 := 0) rfl rfl rfl hl.1 rfl (Nat.le_of_ble_eq_true rfl) ⟨by decide, by decide⟩ dX5_counts_81 ?_
    exact wr_iret hx hb hr hlocks hP hS rfl dX5_counts_84 (by exact ⟨rfl, rfl⟩)
  · refine lv_tableIn (tgt := 85) hx hb dX5_counts_1 (by decide) (by decide) rfl (by decide) ?_
    refine lv_aload_n hx hb dX5_counts_85 rfl (lv_at hl 0 rfl) ?_
    have hmd : md_in (MdW om xS xV xB xT xA xP xR cI thr mS mSv (nI q) mBf kLn mTl mAl mPl kBs kLf kAt kWl mRd kRm hsh) [(cI, .int)] om n P := ⟨0, 1, 0, xS, cI, mS, _, rfl, rfl, rfl, rfl, hn8, hQ.1, hQ.2, hbk⟩
    refine rd_callV (As := []) (rest := []) ⟨hx, hb, hml, hown, hts⟩ (c_X5_clashing l D hmd) (cwV 0 hts gX5_counts_X5_clashing rfl rfl rfl (by decide +kernel) ⟨by decide, by decide⟩) hK hN hP (q0 := 0) rfl rfl rfl hl.1 rfl (Nat.le_of_ble_eq_true rfl) ⟨by decide, by decide⟩ dX5_counts_86 ?_
    exact wr_iret hx hb hr hlocks hP hS rfl dX5_counts_89 (by exact ⟨rfl, rfl⟩)
  · refine lv_tableIn (tgt := 90) hx hb dX5_counts_1 (by decide) (by decide) rfl (by decide) ?_
    refine lv_aload_n hx hb dX5_counts_90 rfl (lv_at hl 0 rfl) ?_
    have hmd : md_in (MdW om xS xV xB xT xA xP xR cI thr mS mSv (nI q) mBf kLn mTl mAl mPl kBs kLf kAt kWl mRd kRm hsh) [(cI, .int)] om n P := ⟨0, 1, 0, xS, cI, mS, _, rfl, rfl, rfl, rfl, hn8, hQ.1, hQ.2, hbk⟩
    refine rd_callV (As := []) (rest := []) ⟨hx, hb, hml, hown, hts⟩ (c_X5_crossed l D hmd) (cwV 0 hts gX5_counts_X5_crossed rfl rfl rfl (by decide +kernel) ⟨by decide, by decide⟩) hK hN hP (q0 := 0) rfl rfl rfl hl.1 rfl (Nat.le_of_ble_eq_true rfl) ⟨by decide, by decide⟩ dX5_counts_91 ?_
    exact wr_iret hx hb hr hlocks hP hS rfl dX5_counts_94 (by exact ⟨rfl, rfl⟩)
  · refine lv_tableOut (tgt := 95) hx hb dX5_counts_1 (by decide) (by decide) ?_
    refine lv_aload_n hx hb dX5_counts_95 rfl (lv_at hl 0 rfl) ?_
    refine va_get (D := D) (ci := 5) (v := .int (nI q)) (C := RX5) (T := TX5) (N := 16) hx hb hts hinX5 hown hK hP 0 rfl rfl 3 (by decide) hw43 (fun _ h9 => h9) rfl dX5_counts_96 ?_
    exact wr_iret hx hb hr hlocks hP hS rfl dX5_counts_99 (by exact ⟨rfl, rfl⟩)
set_option maxHeartbeats 4000000 in
set_option maxRecDepth 100000 in
theorem c_X5_count (l : Launch) (D : va_G) {om xS xV xB xT xA xP xR : Nat} {cI : ClassId} {thr kLn kBs kLf kAt kWl kRm : Int32} {hsh : Int64} {mS mSv mBf mTl mAl mPl mRd : Nat → Int32} {n : Nat} {P : Nat → Nat → Int32} {q : Nat} (hq6 : q ≤ 6) (hn8 : n ≤ 8) (hQ : mdS n P mS) (hbk : bd_ok n P) (x : Int32) : wr_M l yX5_count wsX5_count ({ frames := 8, cells := 0, slots := 0, locals := 182 } : Room) D (MdW om xS xV xB xT xA xP xR cI thr mS mSv (nI q) mBf kLn mTl mAl mPl kBs kLf kAt kWl mRd kRm hsh) [(cI, .int)] [.ref om, .int x] (fun v w9 => (mIn x 0 8 = false ∧ v = some (.int 0) ∧ w9 = MdW om xS xV xB xT xA xP xR cI 1 mS mSv (nI q) mBf kLn mTl mAl mPl kBs kLf kAt kWl mRd kRm hsh) ∨ (∃ k, k < 9 ∧ x = nI k ∧ v = some (.int (mCnt n P (nI q) k)) ∧ w9 = MdW om xS xV xB xT xA xP xR cI 0 mS mSv (nI q) mBf kLn mTl mAl mPl kBs kLf kAt kWl mRd kRm hsh)) := by
  refine wr_of (cc := cX5_count) (maxL := 2) (ret := some .int) (by decide) rfl (Nat.le_of_ble_eq_true rfl) ?_
  intro p e s m below meth c hx hb hr hml hts hown hlocks hP hK hN hZ hD hS ls hl
  have hown : s.vm.findClass RX5 = some m.cls := hown
  have hl : lv_has ls 2 [(0, .ref om), (1, .int x)] := hl
  have hinX5 : ∀ w ∈ u_ws RX5 TX5 16, w ∈ wsX5_count := by decide +kernel
  have hw31 := hts (.fieldLink RX5 31 "CornerLabelsModel" "thrown" "I") (by decide +kernel)
  suffices body : ∀ (H : Heap) (locs : List Loc), va_P D vwCl (MdW om xS xV xB xT xA xP xR cI thr mS mSv (nI q) mBf kLn mTl mAl mPl kBs kLf kAt kWl mRd kRm hsh) H → va_D (wr_in (MdW om xS xV xB xT xA xP xR cI thr mS mSv (nI q) mBf kLn mTl mAl mPl kBs kLf kAt kWl mRd kRm hsh)) (MdW om xS xV xB xT xA xP xR cI thr mS mSv (nI q) mBf kLn mTl mAl mPl kBs kLf kAt kWl mRd kRm hsh) → va_S (wr_in (MdW om xS xV xB xT xA xP xR cI thr mS mSv (nI q) mBf kLn mTl mAl mPl kBs kLf kAt kWl mRd kRm hsh)) s.heap H locs → wr_W p l e wsX5_count ({ frames := 8, cells := 0, slots := 0, locals := 182 } : Room) s m [.ref om, .int x] below meth c D (MdW om xS xV xB xT xA xP xR cI thr mS mSv (nI q) mBf kLn mTl mAl mPl kBs kLf kAt kWl mRd kRm hsh) (fun v w9 => (mIn x 0 8 = false ∧ v = some (.int 0) ∧ w9 = MdW om xS xV xB xT xA xP xR cI 1 mS mSv (nI q) mBf kLn mTl mAl mPl kBs kLf kAt kWl mRd kRm hsh) ∨ (∃ k, k < 9 ∧ x = nI k ∧ v = some (.int (mCnt n P (nI q) k)) ∧ w9 = MdW om xS xV xB xT xA xP xR cI 0 mS mSv (nI q) mBf kLn mTl mAl mPl kBs kLf kAt kWl mRd kRm hsh)) H locs (F0 m 0 ls []) from body _ _ hP hD hS
  clear hP hD hS
  intro H locs hP hD hS
  refine lv_aload_n hx hb dX5_count_0 rfl (lv_at hl 0 rfl) ?_
  refine lv_iconst (v := 0) hx hb dX5_count_1 (by decide) ?_
  refine va_put (D := D) (ci := 5) (v := .int 0) (ty := .int) (C := RX5) (T := TX5) (N := 16) hx hb hts hinX5 tyX5 tyX5_ok nmX5 hown hK hP hD hS 0 rfl rfl 0 (by decide) hw31 (fun _ h9 => h9) rfl (by decide +kernel) rfl rfl (Nat.le_of_ble_eq_true rfl) dX5_count_2 (fun H locs hP hD hS => ?_)
  have hP : va_P D vwCl (MdW om xS xV xB xT xA xP xR cI 0 mS mSv (nI q) mBf kLn mTl mAl mPl kBs kLf kAt kWl mRd kRm hsh) H := hP
  have hD : va_D (wr_in (MdW om xS xV xB xT xA xP xR cI thr mS mSv (nI q) mBf kLn mTl mAl mPl kBs kLf kAt kWl mRd kRm hsh)) (MdW om xS xV xB xT xA xP xR cI 0 mS mSv (nI q) mBf kLn mTl mAl mPl kBs kLf kAt kWl mRd kRm hsh) := hD
  refine lv_iload_n hx hb dX5_count_5 rfl (lv_at hl 1 rfl) ?_
  refine lv_iconst (v := 0) hx hb dX5_count_6 (by decide) ?_
  refine lv_bipush (v := 8) hx hb dX5_count_7 (by decide) ?_
  refine rd_callS (As := [.int x, .int 0, .int 8]) (rest := []) ⟨hx, hb, hml, hown, hts⟩ (c_X5_in l D x 0 8) (va_cwS 3 hts gX5_count_X5_in rfl rfl rfl (by decide +kernel) ⟨by decide, by decide⟩) hK hN hP rfl hl.1 rfl (Nat.le_of_ble_eq_true rfl) ⟨by decide, by decide⟩ dX5_count_9 ?_
  refine rd_ifeq_b (tgt := 23) hx hb dX5_count_12 (by decide) (fun c_12 => ?_) (fun c_12 => ?_)
  · refine lv_aload_n hx hb dX5_count_23 rfl (lv_at hl 0 rfl) ?_
    refine lv_iconst (v := 1) hx hb dX5_count_24 (by decide) ?_
    refine wr_callV (As := [.int 1]) (rest := []) ⟨hx, hb, hml, hown, hts⟩ (c_X5_fails l D 1) (cwV 1 hts gX5_count_X5_fails rfl rfl rfl (by decide +kernel) ⟨by decide, by decide⟩) hK hN hZ hP hD hS [0, 1, 2, 3, 4, 5, 6, 7] [0] rfl (by decide) rfl (q0 := 0) rfl rfl rfl hl.1 rfl (Nat.le_of_ble_eq_true rfl) ⟨by decide, by decide⟩ dX5_count_25 (fun v9 w9 H locs hp9 hP hD hS => ?_)
    obtain ⟨rfl, rfl⟩ := hp9
    have hP : va_P D vwCl (MdW om xS xV xB xT xA xP xR cI 1 mS mSv (nI q) mBf kLn mTl mAl mPl kBs kLf kAt kWl mRd kRm hsh) H := hP
    have hD : va_D (wr_in (MdW om xS xV xB xT xA xP xR cI thr mS mSv (nI q) mBf kLn mTl mAl mPl kBs kLf kAt kWl mRd kRm hsh)) (MdW om xS xV xB xT xA xP xR cI 1 mS mSv (nI q) mBf kLn mTl mAl mPl kBs kLf kAt kWl mRd kRm hsh) := hD
    refine W.eq (g2 := F0 m 28 ls [.int 0]) rfl ?_
    exact wr_iret hx hb hr hlocks hP hS rfl dX5_count_28 (by exact Or.inl ⟨c_12, rfl, rfl⟩)
  · obtain ⟨k, hk, ek⟩ := mIn_nat (m := 8) c_12 (by decide)
    have hk : k < 9 := by omega
    rw [ek] at hl
    have hl : lv_has ls 2 [(0, .ref om), (1, .int (nI k))] := hl
    refine lv_aload_n hx hb dX5_count_15 rfl (lv_at hl 0 rfl) ?_
    refine lv_iload_n hx hb dX5_count_16 rfl (lv_at hl 1 rfl) ?_
    refine wr_callV (As := [.int (nI k)]) (rest := []) ⟨hx, hb, hml, hown, hts⟩ (c_X5_counts (P := P) l D (q := q) hq6 hn8 hQ hbk (k := k) (by omega)) (cwV 1 hts gX5_count_X5_counts rfl rfl rfl (by decide +kernel) ⟨by decide, by decide⟩) hK hN hZ hP hD hS [0, 1, 2, 3, 4, 5, 6, 7] [0] rfl (by decide) rfl (q0 := 0) rfl rfl rfl hl.1 rfl (Nat.le_of_ble_eq_true rfl) ⟨by decide, by decide⟩ dX5_count_17 (fun v9 w9 H locs hp9 hP hD hS => ?_)
    obtain ⟨rfl, rfl⟩ := hp9
    have hP : va_P D vwCl (MdW om xS xV xB xT xA xP xR cI 0 mS mSv (nI q) mBf kLn mTl mAl mPl kBs kLf kAt kWl mRd kRm hsh) H := hP
    have hD : va_D (wr_in (MdW om xS xV xB xT xA xP xR cI thr mS mSv (nI q) mBf kLn mTl mAl mPl kBs kLf kAt kWl mRd kRm hsh)) (MdW om xS xV xB xT xA xP xR cI 0 mS mSv (nI q) mBf kLn mTl mAl mPl kBs kLf kAt kWl mRd kRm hsh) := hD
    refine W.eq (g2 := F0 m 20 ls [.int (mCnt n P (nI q) k)]) rfl ?_
    refine lv_goto (tgt := 28) hx hb dX5_count_20 (by decide) ?_
    exact wr_iret hx hb hr hlocks hP hS rfl dX5_count_28 (by exact Or.inr ⟨k, hk, ek, rfl, rfl⟩)
