abbrev BdW (ob oc : Nat) (cI : ClassId) (n : Int32) (f : Nat → Int32) : va_W := [(ob, .inr (0, [.ref oc, .int n])), (oc, .inl (cI, 48, .inl f))]
abbrev HiW (oh hc hp ob oc : Nat) (cI : ClassId) (st : Int32) (hf : Nat → Int32) (hn : Nat → Int32) (n : Int32) (f : Nat → Int32) : va_W := [(oh, .inr (1, [.ref hc, .ref hp, .int st])), (hc, .inl (cI, 288, .inl hf)), (hp, .inl (cI, 6, .inl hn)), (ob, .inr (0, [.ref oc, .int n])), (oc, .inl (cI, 48, .inl f))]
abbrev HiO (oh hc hp : Nat) (cI : ClassId) (st : Int32) (hf : Nat → Int32) (hn : Nat → Int32) : va_W := [(oh, .inr (1, [.ref hc, .ref hp, .int st])), (hc, .inl (cI, 288, .inl hf)), (hp, .inl (cI, 6, .inl hn))]
set_option maxHeartbeats 4000000 in
set_option maxRecDepth 100000 in
theorem c_X1_forgetOldest (l : Launch) (D : va_G) {oh hc hp : Nat} {cI : ClassId} {st : Int32} {hf hn : Nat → Int32} : wr_M l yX1_forgetOldest wsX1_forgetOldest ({ frames := 1, cells := 0, slots := 0, locals := 60 } : Room) D (HiO oh hc hp cI st hf hn) [(cI, .int)] [.ref oh] (fun v w9 => v = none ∧ w9 = HiO oh hc hp cI 5 (va_cpy hf hf 48 0 240) (va_cpy hn hn 1 0 5)) := by
  refine wr_of (cc := cX1_forgetOldest) (maxL := 1) (ret := none) (by decide) rfl (Nat.le_of_ble_eq_true rfl) ?_
  intro p e s m below meth c hx hb hr hml hts hown hlocks hP hK hN hZ hD hS ls hl
  have hown : s.vm.findClass RX1 = some m.cls := hown
  have hl : lv_has ls 1 [(0, .ref oh)] := hl
  have hinX1 : ∀ w ∈ u_ws RX1 TX1 3, w ∈ wsX1_forgetOldest := by decide +kernel
  have hw11 := hts (.fieldLink RX1 11 "CornerLabels$History" "cells" "[I") (by decide +kernel)
  have hw17 := hts (.fieldLink RX1 17 "CornerLabels$History" "points" "[I") (by decide +kernel)
  have hw20 := hts (.fieldLink RX1 20 "CornerLabels$History" "states" "I") (by decide +kernel)
  suffices body : ∀ (H : Heap) (locs : List Loc), va_P D vwCl (HiO oh hc hp cI st hf hn) H → va_D (wr_in (HiO oh hc hp cI st hf hn)) (HiO oh hc hp cI st hf hn) → va_S (wr_in (HiO oh hc hp cI st hf hn)) s.heap H locs → wr_W p l e wsX1_forgetOldest ({ frames := 1, cells := 0, slots := 0, locals := 60 } : Room) s m [.ref oh] below meth c D (HiO oh hc hp cI st hf hn) (fun v w9 => v = none ∧ w9 = HiO oh hc hp cI 5 (va_cpy hf hf 48 0 240) (va_cpy hn hn 1 0 5)) H locs (F0 m 0 ls []) from body _ _ hP hD hS
  clear hP hD hS
  intro H locs hP hD hS
  refine lv_aload_n hx hb dX1_forgetOldest_0 rfl (lv_at hl 0 rfl) ?_
  refine va_get (D := D) (ci := 1) (v := .ref hc) (C := RX1) (T := TX1) (N := 3) hx hb hts hinX1 hown hK hP 0 rfl rfl 0 (by decide) hw11 (fun _ h9 => h9) rfl dX1_forgetOldest_1 ?_
  refine lv_bipush (v := 48) hx hb dX1_forgetOldest_4 (by decide) ?_
  refine lv_aload_n hx hb dX1_forgetOldest_6 rfl (lv_at hl 0 rfl) ?_
  refine va_get (D := D) (ci := 1) (v := .ref hc) (C := RX1) (T := TX1) (N := 3) hx hb hts hinX1 hown hK hP 0 rfl rfl 0 (by decide) hw11 (fun _ h9 => h9) rfl dX1_forgetOldest_7 ?_
  refine lv_iconst (v := 0) hx hb dX1_forgetOldest_10 (by decide) ?_
  refine lv_sipush (v := 240) hx hb dX1_forgetOldest_11 (by decide) ?_
  refine wr_copy (q0 := 1) (q1 := 1) (t0 := 0) (sp := 48) (dp := 0) (k := 240) hx hb (hml.trans hl.1.symm) hown (hts (.methodLink RX1 28 arraycopyName) (by decide +kernel)) (hts (.native arraycopyName) (by decide +kernel)) (hts (.static arraycopyName) (by decide +kernel)) (hts (.initialized "java/lang/System") (by decide +kernel)) hK hP hD hS rfl rfl rfl (rfl) (rfl) (rfl) (by omega) (by omega) (by decide) (by decide) (by decide) (by decide) dX1_forgetOldest_14 (Nat.le_of_ble_eq_true rfl) (fun H locs hP hD hS => ?_)
  obtain ⟨hf_14, ehf_14⟩ : ∃ zz9 : Nat → Int32, zz9 = va_cpy hf hf 48 0 240 := ⟨_, rfl⟩
  rw [← ehf_14] at hP hD
  have hP : va_P D vwCl (HiO oh hc hp cI st hf_14 hn) H := hP
  have hD : va_D (wr_in (HiO oh hc hp cI st hf hn)) (HiO oh hc hp cI st hf_14 hn) := hD
  refine lv_aload_n hx hb dX1_forgetOldest_17 rfl (lv_at hl 0 rfl) ?_
  refine va_get (D := D) (ci := 1) (v := .ref hp) (C := RX1) (T := TX1) (N := 3) hx hb hts hinX1 hown hK hP 0 rfl rfl 1 (by decide) hw17 (fun _ h9 => h9) rfl dX1_forgetOldest_18 ?_
  refine lv_iconst (v := 1) hx hb dX1_forgetOldest_21 (by decide) ?_
  refine lv_aload_n hx hb dX1_forgetOldest_22 rfl (lv_at hl 0 rfl) ?_
  refine va_get (D := D) (ci := 1) (v := .ref hp) (C := RX1) (T := TX1) (N := 3) hx hb hts hinX1 hown hK hP 0 rfl rfl 1 (by decide) hw17 (fun _ h9 => h9) rfl dX1_forgetOldest_23 ?_
  refine lv_iconst (v := 0) hx hb dX1_forgetOldest_26 (by decide) ?_
  refine lv_iconst (v := 5) hx hb dX1_forgetOldest_27 (by decide) ?_
  refine wr_copy (q0 := 2) (q1 := 2) (t0 := 0) (sp := 1) (dp := 0) (k := 5) hx hb (hml.trans hl.1.symm) hown (hts (.methodLink RX1 28 arraycopyName) (by decide +kernel)) (hts (.native arraycopyName) (by decide +kernel)) (hts (.static arraycopyName) (by decide +kernel)) (hts (.initialized "java/lang/System") (by decide +kernel)) hK hP hD hS rfl rfl rfl (rfl) (rfl) (rfl) (by omega) (by omega) (by decide) (by decide) (by decide) (by decide) dX1_forgetOldest_28 (Nat.le_of_ble_eq_true rfl) (fun H locs hP hD hS => ?_)
  obtain ⟨hn_28, ehn_28⟩ : ∃ zz9 : Nat → Int32, zz9 = va_cpy hn hn 1 0 5 := ⟨_, rfl⟩
  rw [← ehn_28] at hP hD
  have hP : va_P D vwCl (HiO oh hc hp cI st hf_14 hn_28) H := hP
  have hD : va_D (wr_in (HiO oh hc hp cI st hf hn)) (HiO oh hc hp cI st hf_14 hn_28) := hD
  refine lv_aload_n hx hb dX1_forgetOldest_31 rfl (lv_at hl 0 rfl) ?_
  refine lv_iconst (v := 5) hx hb dX1_forgetOldest_32 (by decide) ?_
  refine va_put (D := D) (ci := 1) (v := .int 5) (ty := .int) (C := RX1) (T := TX1) (N := 3) hx hb hts hinX1 tyX1 tyX1_ok nmX1 hown hK hP hD hS 0 rfl rfl 2 (by decide) hw20 (fun _ h9 => h9) rfl (by decide +kernel) rfl rfl (Nat.le_of_ble_eq_true rfl) dX1_forgetOldest_33 (fun H locs hP hD hS => ?_)
  have hP : va_P D vwCl (HiO oh hc hp cI 5 hf_14 hn_28) H := hP
  have hD : va_D (wr_in (HiO oh hc hp cI st hf hn)) (HiO oh hc hp cI 5 hf_14 hn_28) := hD
  exact wr_vret hx hb hr hlocks hP hS rfl dX1_forgetOldest_36 (by exact ⟨rfl, by rw [ehf_14, ehn_28]⟩)
set_option maxHeartbeats 4000000 in
set_option maxRecDepth 100000 in
theorem c_X1_save (l : Launch) (D : va_G) {oh hc hp ob oc : Nat} {cI : ClassId} {k n : Nat} {hf hn f : Nat → Int32} (hk : k ≤ 6) : wr_M l yX1_save wsX1_save ({ frames := 2, cells := 0, slots := 0, locals := 80 } : Room) D (HiW oh hc hp ob oc cI (nI k) hf hn (nI n) f) [(cI, .int)] [.ref oh, .ref ob] (fun v w9 => v = none ∧ w9 = HiW oh hc hp ob oc cI (nI ((if k < 6 then k else 5) + 1)) (va_cpy f (if k < 6 then hf else va_cpy hf hf 48 0 240) 0 ((if k < 6 then k else 5) * 48) 48) (upd (if k < 6 then hn else va_cpy hn hn 1 0 5) (if k < 6 then k else 5) (nI n)) (nI n) f) := by
  refine wr_of (cc := cX1_save) (maxL := 2) (ret := none) (by decide) rfl (Nat.le_of_ble_eq_true rfl) ?_
  intro p e s m below meth c hx hb hr hml hts hown hlocks hP hK hN hZ hD hS ls hl
  have hown : s.vm.findClass RX1 = some m.cls := hown
  have hl : lv_has ls 2 [(0, .ref oh), (1, .ref ob)] := hl
  have hinX1 : ∀ w ∈ u_ws RX1 TX1 3, w ∈ wsX1_save := by decide +kernel
  have hw20 := hts (.fieldLink RX1 20 "CornerLabels$History" "states" "I") (by decide +kernel)
  have hinX0 : ∀ w ∈ u_ws RX0 TX0 2, w ∈ wsX1_save := by decide +kernel
  have hw27 := hts (.fieldLink RX1 27 "CornerLabels$Board" "cells" "[I") (by decide +kernel)
  have hw11 := hts (.fieldLink RX1 11 "CornerLabels$History" "cells" "[I") (by decide +kernel)
  have hw17 := hts (.fieldLink RX1 17 "CornerLabels$History" "points" "[I") (by decide +kernel)
  have hw34 := hts (.fieldLink RX1 34 "CornerLabels$Board" "points" "I") (by decide +kernel)
  suffices body : ∀ (H : Heap) (locs : List Loc), va_P D vwCl (HiW oh hc hp ob oc cI (nI k) hf hn (nI n) f) H → va_D (wr_in (HiW oh hc hp ob oc cI (nI k) hf hn (nI n) f)) (HiW oh hc hp ob oc cI (nI k) hf hn (nI n) f) → va_S (wr_in (HiW oh hc hp ob oc cI (nI k) hf hn (nI n) f)) s.heap H locs → wr_W p l e wsX1_save ({ frames := 2, cells := 0, slots := 0, locals := 80 } : Room) s m [.ref oh, .ref ob] below meth c D (HiW oh hc hp ob oc cI (nI k) hf hn (nI n) f) (fun v w9 => v = none ∧ w9 = HiW oh hc hp ob oc cI (nI ((if k < 6 then k else 5) + 1)) (va_cpy f (if k < 6 then hf else va_cpy hf hf 48 0 240) 0 ((if k < 6 then k else 5) * 48) 48) (upd (if k < 6 then hn else va_cpy hn hn 1 0 5) (if k < 6 then k else 5) (nI n)) (nI n) f) H locs (F0 m 0 ls []) from body _ _ hP hD hS
  clear hP hD hS
  intro H locs hP hD hS
  refine lv_aload_n hx hb dX1_save_0 rfl (lv_at hl 0 rfl) ?_
  refine va_get (D := D) (ci := 1) (v := .int (nI k)) (C := RX1) (T := TX1) (N := 3) hx hb hts hinX1 hown hK hP 0 rfl rfl 2 (by decide) hw20 (fun _ h9 => h9) rfl dX1_save_1 ?_
  refine lv_bipush (v := 6) hx hb dX1_save_4 (by decide) ?_
  refine rd_icmp_lt_n (a := k) (b := 6) (tgt := 13) (by omega) (by omega) hx hb dX1_save_6 (by decide) (fun c_6 => ?_) (fun c_6 => ?_)
  · have c_6n := Nat.not_le.mpr c_6
    refine lv_aload_n hx hb dX1_save_13 rfl (lv_at hl 1 rfl) ?_
    refine va_get (D := D) (ci := 0) (v := .ref oc) (C := RX0) (T := TX0) (N := 2) hx hb hts hinX0 hown hK hP 3 rfl rfl 0 (by decide) hw27 (fun _ h9 => h9) rfl dX1_save_14 ?_
    refine lv_iconst (v := 0) hx hb dX1_save_17 (by decide) ?_
    refine lv_aload_n hx hb dX1_save_18 rfl (lv_at hl 0 rfl) ?_
    refine va_get (D := D) (ci := 1) (v := .ref hc) (C := RX1) (T := TX1) (N := 3) hx hb hts hinX1 hown hK hP 0 rfl rfl 0 (by decide) hw11 (fun _ h9 => h9) rfl dX1_save_19 ?_
    refine lv_aload_n hx hb dX1_save_22 rfl (lv_at hl 0 rfl) ?_
    refine va_get (D := D) (ci := 1) (v := .int (nI k)) (C := RX1) (T := TX1) (N := 3) hx hb hts hinX1 hown hK hP 0 rfl rfl 2 (by decide) hw20 (fun _ h9 => h9) rfl dX1_save_23 ?_
    refine lv_bipush (v := 48) hx hb dX1_save_26 (by decide) ?_
    refine lv_imul hx hb dX1_save_28 ?_
    refine lv_asi (y := nI (k * 48)) (pk_mul k 48) ?_
    refine lv_bipush (v := 48) hx hb dX1_save_29 (by decide) ?_
    refine wr_copy (q0 := 4) (q1 := 1) (t0 := 0) (sp := 0) (dp := k * 48) (k := 48) hx hb (hml.trans hl.1.symm) hown (hts (.methodLink RX1 28 arraycopyName) (by decide +kernel)) (hts (.native arraycopyName) (by decide +kernel)) (hts (.static arraycopyName) (by decide +kernel)) (hts (.initialized "java/lang/System") (by decide +kernel)) hK hP hD hS rfl rfl rfl (rfl) (rfl) (rfl) (by omega) (by omega) (by decide) (by decide) (by decide) (by decide) dX1_save_31 (Nat.le_of_ble_eq_true rfl) (fun H locs hP hD hS => ?_)
    obtain ⟨hf_31, ehf_31⟩ : ∃ zz9 : Nat → Int32, zz9 = va_cpy f hf 0 (k * 48) 48 := ⟨_, rfl⟩
    rw [← ehf_31] at hP hD
    have hP : va_P D vwCl (HiW oh hc hp ob oc cI (nI k) hf_31 hn (nI n) f) H := hP
    have hD : va_D (wr_in (HiW oh hc hp ob oc cI (nI k) hf hn (nI n) f)) (HiW oh hc hp ob oc cI (nI k) hf_31 hn (nI n) f) := hD
    refine lv_aload_n hx hb dX1_save_34 rfl (lv_at hl 0 rfl) ?_
    refine va_get (D := D) (ci := 1) (v := .ref hp) (C := RX1) (T := TX1) (N := 3) hx hb hts hinX1 hown hK hP 0 rfl rfl 1 (by decide) hw17 (fun _ h9 => h9) rfl dX1_save_35 ?_
    refine lv_aload_n hx hb dX1_save_38 rfl (lv_at hl 0 rfl) ?_
    refine va_get (D := D) (ci := 1) (v := .int (nI k)) (C := RX1) (T := TX1) (N := 3) hx hb hts hinX1 hown hK hP 0 rfl rfl 2 (by decide) hw20 (fun _ h9 => h9) rfl dX1_save_39 ?_
    refine lv_aload_n hx hb dX1_save_42 rfl (lv_at hl 1 rfl) ?_
    refine va_get (D := D) (ci := 0) (v := .int (nI n)) (C := RX0) (T := TX0) (N := 2) hx hb hts hinX0 hown hK hP 3 rfl rfl 1 (by decide) hw34 (fun _ h9 => h9) rfl dX1_save_43 ?_
    refine wr_ast (q0 := 2) (t0 := 0) (j := k) hx hb hK hP hD hS rfl rfl (rfl) (by omega) (by decide) dX1_save_46 (fun H locs hP hD hS => ?_)
    obtain ⟨hn_46, ehn_46⟩ : ∃ zz9 : Nat → Int32, zz9 = upd hn k (nI n) := ⟨_, rfl⟩
    rw [← ehn_46] at hP hD
    have hP : va_P D vwCl (HiW oh hc hp ob oc cI (nI k) hf_31 hn_46 (nI n) f) H := hP
    have hD : va_D (wr_in (HiW oh hc hp ob oc cI (nI k) hf hn (nI n) f)) (HiW oh hc hp ob oc cI (nI k) hf_31 hn_46 (nI n) f) := hD
    refine lv_aload_n hx hb dX1_save_47 rfl (lv_at hl 0 rfl) ?_
    refine lv_dup hx hb dX1_save_48 rfl ?_
    refine va_get (D := D) (ci := 1) (v := .int (nI k)) (C := RX1) (T := TX1) (N := 3) hx hb hts hinX1 hown hK hP 0 rfl rfl 2 (by decide) hw20 (fun _ h9 => h9) rfl dX1_save_49 ?_
    refine lv_iconst (v := 1) hx hb dX1_save_52 (by decide) ?_
    refine lv_iadd hx hb dX1_save_53 ?_
    refine lv_asi (y := nI (k + 1)) (nI_add k 1) ?_
    refine va_put (D := D) (ci := 1) (v := .int (nI (k + 1))) (ty := .int) (C := RX1) (T := TX1) (N := 3) hx hb hts hinX1 tyX1 tyX1_ok nmX1 hown hK hP hD hS 0 rfl rfl 2 (by decide) hw20 (fun _ h9 => h9) rfl (by decide +kernel) rfl rfl (Nat.le_of_ble_eq_true rfl) dX1_save_54 (fun H locs hP hD hS => ?_)
    have hP : va_P D vwCl (HiW oh hc hp ob oc cI (nI (k + 1)) hf_31 hn_46 (nI n) f) H := hP
    have hD : va_D (wr_in (HiW oh hc hp ob oc cI (nI k) hf hn (nI n) f)) (HiW oh hc hp ob oc cI (nI (k + 1)) hf_31 hn_46 (nI n) f) := hD
    exact wr_vret hx hb hr hlocks hP hS rfl dX1_save_57 (by exact ⟨rfl, by simp [ehf_31, ehn_46, c_6, c_6n] <;> rfl⟩)
  · have c_6n := Nat.not_lt.mpr c_6
    refine lv_aload_n hx hb dX1_save_9 rfl (lv_at hl 0 rfl) ?_
    refine wr_callV (As := []) (rest := []) ⟨hx, hb, hml, hown, hts⟩ (c_X1_forgetOldest l D) (cwV 0 hts gX1_save_X1_forgetOldest rfl rfl rfl (by decide +kernel) ⟨by decide, by decide⟩) hK hN hZ hP hD hS [0, 1, 2] [0] rfl (by decide) rfl (q0 := 0) rfl rfl rfl hl.1 rfl (Nat.le_of_ble_eq_true rfl) ⟨by decide, by decide⟩ dX1_save_10 (fun v9 w9 H locs hp9 hP hD hS => ?_)
    obtain ⟨rfl, rfl⟩ := hp9
    have hP : va_P D vwCl (HiW oh hc hp ob oc cI 5 (va_cpy hf hf 48 0 240) (va_cpy hn hn 1 0 5) (nI n) f) H := hP
    have hD : va_D (wr_in (HiW oh hc hp ob oc cI (nI k) hf hn (nI n) f)) (HiW oh hc hp ob oc cI 5 (va_cpy hf hf 48 0 240) (va_cpy hn hn 1 0 5) (nI n) f) := hD
    refine W.eq (g2 := F0 m 13 ls []) rfl ?_
    refine lv_aload_n hx hb dX1_save_13 rfl (lv_at hl 1 rfl) ?_
    refine va_get (D := D) (ci := 0) (v := .ref oc) (C := RX0) (T := TX0) (N := 2) hx hb hts hinX0 hown hK hP 3 rfl rfl 0 (by decide) hw27 (fun _ h9 => h9) rfl dX1_save_14 ?_
    refine lv_iconst (v := 0) hx hb dX1_save_17 (by decide) ?_
    refine lv_aload_n hx hb dX1_save_18 rfl (lv_at hl 0 rfl) ?_
    refine va_get (D := D) (ci := 1) (v := .ref hc) (C := RX1) (T := TX1) (N := 3) hx hb hts hinX1 hown hK hP 0 rfl rfl 0 (by decide) hw11 (fun _ h9 => h9) rfl dX1_save_19 ?_
    refine lv_aload_n hx hb dX1_save_22 rfl (lv_at hl 0 rfl) ?_
    refine va_get (D := D) (ci := 1) (v := .int 5) (C := RX1) (T := TX1) (N := 3) hx hb hts hinX1 hown hK hP 0 rfl rfl 2 (by decide) hw20 (fun _ h9 => h9) rfl dX1_save_23 ?_
    refine lv_bipush (v := 48) hx hb dX1_save_26 (by decide) ?_
    refine lv_imul hx hb dX1_save_28 ?_
    refine lv_asi (y := 240) (by decide) ?_
    refine lv_bipush (v := 48) hx hb dX1_save_29 (by decide) ?_
    refine wr_copy (q0 := 4) (q1 := 1) (t0 := 0) (sp := 0) (dp := 240) (k := 48) hx hb (hml.trans hl.1.symm) hown (hts (.methodLink RX1 28 arraycopyName) (by decide +kernel)) (hts (.native arraycopyName) (by decide +kernel)) (hts (.static arraycopyName) (by decide +kernel)) (hts (.initialized "java/lang/System") (by decide +kernel)) hK hP hD hS rfl rfl rfl (rfl) (rfl) (rfl) (by omega) (by omega) (by decide) (by decide) (by decide) (by decide) dX1_save_31 (Nat.le_of_ble_eq_true rfl) (fun H locs hP hD hS => ?_)
    obtain ⟨hf_31, ehf_31⟩ : ∃ zz9 : Nat → Int32, zz9 = va_cpy f (va_cpy hf hf 48 0 240) 0 240 48 := ⟨_, rfl⟩
    rw [← ehf_31] at hP hD
    have hP : va_P D vwCl (HiW oh hc hp ob oc cI 5 hf_31 (va_cpy hn hn 1 0 5) (nI n) f) H := hP
    have hD : va_D (wr_in (HiW oh hc hp ob oc cI (nI k) hf hn (nI n) f)) (HiW oh hc hp ob oc cI 5 hf_31 (va_cpy hn hn 1 0 5) (nI n) f) := hD
    refine lv_aload_n hx hb dX1_save_34 rfl (lv_at hl 0 rfl) ?_
    refine va_get (D := D) (ci := 1) (v := .ref hp) (C := RX1) (T := TX1) (N := 3) hx hb hts hinX1 hown hK hP 0 rfl rfl 1 (by decide) hw17 (fun _ h9 => h9) rfl dX1_save_35 ?_
    refine lv_aload_n hx hb dX1_save_38 rfl (lv_at hl 0 rfl) ?_
    refine va_get (D := D) (ci := 1) (v := .int 5) (C := RX1) (T := TX1) (N := 3) hx hb hts hinX1 hown hK hP 0 rfl rfl 2 (by decide) hw20 (fun _ h9 => h9) rfl dX1_save_39 ?_
    refine lv_aload_n hx hb dX1_save_42 rfl (lv_at hl 1 rfl) ?_
    refine va_get (D := D) (ci := 0) (v := .int (nI n)) (C := RX0) (T := TX0) (N := 2) hx hb hts hinX0 hown hK hP 3 rfl rfl 1 (by decide) hw34 (fun _ h9 => h9) rfl dX1_save_43 ?_
    refine wr_ast (q0 := 2) (t0 := 0) (j := 5) hx hb hK hP hD hS rfl rfl (rfl) (by omega) (by decide) dX1_save_46 (fun H locs hP hD hS => ?_)
    obtain ⟨hn_46, ehn_46⟩ : ∃ zz9 : Nat → Int32, zz9 = upd (va_cpy hn hn 1 0 5) 5 (nI n) := ⟨_, rfl⟩
    rw [← ehn_46] at hP hD
    have hP : va_P D vwCl (HiW oh hc hp ob oc cI 5 hf_31 hn_46 (nI n) f) H := hP
    have hD : va_D (wr_in (HiW oh hc hp ob oc cI (nI k) hf hn (nI n) f)) (HiW oh hc hp ob oc cI 5 hf_31 hn_46 (nI n) f) := hD
    refine lv_aload_n hx hb dX1_save_47 rfl (lv_at hl 0 rfl) ?_
    refine lv_dup hx hb dX1_save_48 rfl ?_
    refine va_get (D := D) (ci := 1) (v := .int 5) (C := RX1) (T := TX1) (N := 3) hx hb hts hinX1 hown hK hP 0 rfl rfl 2 (by decide) hw20 (fun _ h9 => h9) rfl dX1_save_49 ?_
    refine lv_iconst (v := 1) hx hb dX1_save_52 (by decide) ?_
    refine lv_iadd hx hb dX1_save_53 ?_
    refine lv_asi (y := 6) (by decide) ?_
    refine va_put (D := D) (ci := 1) (v := .int 6) (ty := .int) (C := RX1) (T := TX1) (N := 3) hx hb hts hinX1 tyX1 tyX1_ok nmX1 hown hK hP hD hS 0 rfl rfl 2 (by decide) hw20 (fun _ h9 => h9) rfl (by decide +kernel) rfl rfl (Nat.le_of_ble_eq_true rfl) dX1_save_54 (fun H locs hP hD hS => ?_)
    have hP : va_P D vwCl (HiW oh hc hp ob oc cI 6 hf_31 hn_46 (nI n) f) H := hP
    have hD : va_D (wr_in (HiW oh hc hp ob oc cI (nI k) hf hn (nI n) f)) (HiW oh hc hp ob oc cI 6 hf_31 hn_46 (nI n) f) := hD
    exact wr_vret hx hb hr hlocks hP hS rfl dX1_save_57 (by exact ⟨rfl, by simp [ehf_31, ehn_46, c_6, c_6n] <;> rfl⟩)
set_option maxHeartbeats 4000000 in
set_option maxRecDepth 100000 in
theorem c_X1_restore (l : Launch) (D : va_G) {oh hc hp ob oc : Nat} {cI : ClassId} {k n : Nat} {hf hn f : Nat → Int32} (hk : k < 6) : wr_M l yX1_restore wsX1_restore ({ frames := 1, cells := 0, slots := 0, locals := 60 } : Room) D (HiW oh hc hp ob oc cI (nI (k + 1)) hf hn (nI n) f) [(cI, .int)] [.ref oh, .ref ob] (fun v w9 => v = none ∧ w9 = HiW oh hc hp ob oc cI (nI k) hf hn (hn k) (va_cpy hf f (k * 48) 0 48)) := by
  refine wr_of (cc := cX1_restore) (maxL := 2) (ret := none) (by decide) rfl (Nat.le_of_ble_eq_true rfl) ?_
  intro p e s m below meth c hx hb hr hml hts hown hlocks hP hK hN hZ hD hS ls hl
  have hown : s.vm.findClass RX1 = some m.cls := hown
  have hl : lv_has ls 2 [(0, .ref oh), (1, .ref ob)] := hl
  have hinX1 : ∀ w ∈ u_ws RX1 TX1 3, w ∈ wsX1_restore := by decide +kernel
  have hw20 := hts (.fieldLink RX1 20 "CornerLabels$History" "states" "I") (by decide +kernel)
  have hw11 := hts (.fieldLink RX1 11 "CornerLabels$History" "cells" "[I") (by decide +kernel)
  have hinX0 : ∀ w ∈ u_ws RX0 TX0 2, w ∈ wsX1_restore := by decide +kernel
  have hw27 := hts (.fieldLink RX1 27 "CornerLabels$Board" "cells" "[I") (by decide +kernel)
  have hw17 := hts (.fieldLink RX1 17 "CornerLabels$History" "points" "[I") (by decide +kernel)
  have hw34 := hts (.fieldLink RX1 34 "CornerLabels$Board" "points" "I") (by decide +kernel)
  suffices body : ∀ (H : Heap) (locs : List Loc), va_P D vwCl (HiW oh hc hp ob oc cI (nI (k + 1)) hf hn (nI n) f) H → va_D (wr_in (HiW oh hc hp ob oc cI (nI (k + 1)) hf hn (nI n) f)) (HiW oh hc hp ob oc cI (nI (k + 1)) hf hn (nI n) f) → va_S (wr_in (HiW oh hc hp ob oc cI (nI (k + 1)) hf hn (nI n) f)) s.heap H locs → wr_W p l e wsX1_restore ({ frames := 1, cells := 0, slots := 0, locals := 60 } : Room) s m [.ref oh, .ref ob] below meth c D (HiW oh hc hp ob oc cI (nI (k + 1)) hf hn (nI n) f) (fun v w9 => v = none ∧ w9 = HiW oh hc hp ob oc cI (nI k) hf hn (hn k) (va_cpy hf f (k * 48) 0 48)) H locs (F0 m 0 ls []) from body _ _ hP hD hS
  clear hP hD hS
  intro H locs hP hD hS
  refine lv_aload_n hx hb dX1_restore_0 rfl (lv_at hl 0 rfl) ?_
  refine lv_dup hx hb dX1_restore_1 rfl ?_
  refine va_get (D := D) (ci := 1) (v := .int (nI (k + 1))) (C := RX1) (T := TX1) (N := 3) hx hb hts hinX1 hown hK hP 0 rfl rfl 2 (by decide) hw20 (fun _ h9 => h9) rfl dX1_restore_2 ?_
  refine lv_iconst (v := 1) hx hb dX1_restore_5 (by decide) ?_
  refine lv_isub hx hb dX1_restore_6 ?_
  refine lv_asi (y := nI k) (nI_pred k) ?_
  refine va_put (D := D) (ci := 1) (v := .int (nI k)) (ty := .int) (C := RX1) (T := TX1) (N := 3) hx hb hts hinX1 tyX1 tyX1_ok nmX1 hown hK hP hD hS 0 rfl rfl 2 (by decide) hw20 (fun _ h9 => h9) rfl (by decide +kernel) rfl rfl (Nat.le_of_ble_eq_true rfl) dX1_restore_7 (fun H locs hP hD hS => ?_)
  have hP : va_P D vwCl (HiW oh hc hp ob oc cI (nI k) hf hn (nI n) f) H := hP
  have hD : va_D (wr_in (HiW oh hc hp ob oc cI (nI (k + 1)) hf hn (nI n) f)) (HiW oh hc hp ob oc cI (nI k) hf hn (nI n) f) := hD
  refine lv_aload_n hx hb dX1_restore_10 rfl (lv_at hl 0 rfl) ?_
  refine va_get (D := D) (ci := 1) (v := .ref hc) (C := RX1) (T := TX1) (N := 3) hx hb hts hinX1 hown hK hP 0 rfl rfl 0 (by decide) hw11 (fun _ h9 => h9) rfl dX1_restore_11 ?_
  refine lv_aload_n hx hb dX1_restore_14 rfl (lv_at hl 0 rfl) ?_
  refine va_get (D := D) (ci := 1) (v := .int (nI k)) (C := RX1) (T := TX1) (N := 3) hx hb hts hinX1 hown hK hP 0 rfl rfl 2 (by decide) hw20 (fun _ h9 => h9) rfl dX1_restore_15 ?_
  refine lv_bipush (v := 48) hx hb dX1_restore_18 (by decide) ?_
  refine lv_imul hx hb dX1_restore_20 ?_
  refine lv_asi (y := nI (k * 48)) (pk_mul k 48) ?_
  refine lv_aload_n hx hb dX1_restore_21 rfl (lv_at hl 1 rfl) ?_
  refine va_get (D := D) (ci := 0) (v := .ref oc) (C := RX0) (T := TX0) (N := 2) hx hb hts hinX0 hown hK hP 3 rfl rfl 0 (by decide) hw27 (fun _ h9 => h9) rfl dX1_restore_22 ?_
  refine lv_iconst (v := 0) hx hb dX1_restore_25 (by decide) ?_
  refine lv_bipush (v := 48) hx hb dX1_restore_26 (by decide) ?_
  refine wr_copy (q0 := 1) (q1 := 4) (t0 := 0) (sp := k * 48) (dp := 0) (k := 48) hx hb (hml.trans hl.1.symm) hown (hts (.methodLink RX1 28 arraycopyName) (by decide +kernel)) (hts (.native arraycopyName) (by decide +kernel)) (hts (.static arraycopyName) (by decide +kernel)) (hts (.initialized "java/lang/System") (by decide +kernel)) hK hP hD hS rfl rfl rfl (rfl) (rfl) (rfl) (by omega) (by omega) (by decide) (by decide) (by decide) (by decide) dX1_restore_28 (Nat.le_of_ble_eq_true rfl) (fun H locs hP hD hS => ?_)
  obtain ⟨f_28, ef_28⟩ : ∃ zz9 : Nat → Int32, zz9 = va_cpy hf f (k * 48) 0 48 := ⟨_, rfl⟩
  rw [← ef_28] at hP hD
  have hP : va_P D vwCl (HiW oh hc hp ob oc cI (nI k) hf hn (nI n) f_28) H := hP
  have hD : va_D (wr_in (HiW oh hc hp ob oc cI (nI (k + 1)) hf hn (nI n) f)) (HiW oh hc hp ob oc cI (nI k) hf hn (nI n) f_28) := hD
  refine lv_aload_n hx hb dX1_restore_31 rfl (lv_at hl 1 rfl) ?_
  refine lv_aload_n hx hb dX1_restore_32 rfl (lv_at hl 0 rfl) ?_
  refine va_get (D := D) (ci := 1) (v := .ref hp) (C := RX1) (T := TX1) (N := 3) hx hb hts hinX1 hown hK hP 0 rfl rfl 1 (by decide) hw17 (fun _ h9 => h9) rfl dX1_restore_33 ?_
  refine lv_aload_n hx hb dX1_restore_36 rfl (lv_at hl 0 rfl) ?_
  refine va_get (D := D) (ci := 1) (v := .int (nI k)) (C := RX1) (T := TX1) (N := 3) hx hb hts hinX1 hown hK hP 0 rfl rfl 2 (by decide) hw20 (fun _ h9 => h9) rfl dX1_restore_37 ?_
  refine rd_ald (q0 := 2) (t0 := 0) (j := k) (v := hn k) hx hb hK hP rfl rfl (rfl) (by omega) (by decide) (rfl) dX1_restore_40 ?_
  refine va_put (D := D) (ci := 0) (v := .int (hn k)) (ty := .int) (C := RX0) (T := TX0) (N := 2) hx hb hts hinX0 tyX0 tyX0_ok nmX0 hown hK hP hD hS 3 rfl rfl 1 (by decide) hw34 (fun _ h9 => h9) rfl (by decide +kernel) rfl rfl (Nat.le_of_ble_eq_true rfl) dX1_restore_41 (fun H locs hP hD hS => ?_)
  have hP : va_P D vwCl (HiW oh hc hp ob oc cI (nI k) hf hn (hn k) f_28) H := hP
  have hD : va_D (wr_in (HiW oh hc hp ob oc cI (nI (k + 1)) hf hn (nI n) f)) (HiW oh hc hp ob oc cI (nI k) hf hn (hn k) f_28) := hD
  exact wr_vret hx hb hr hlocks hP hS rfl dX1_restore_44 (by exact ⟨rfl, by rw [ef_28]⟩)
set_option maxHeartbeats 4000000 in
set_option maxRecDepth 100000 in
theorem c_X0_insert (l : Launch) (D : va_G) {ob oc : Nat} {cI : ClassId} {n : Nat} {P : Nat → Nat → Int32} {f : Nat → Int32} (hn8 : n < 8) (hf : ∀ i, i < n → ∀ k, k < 6 → f (8 * k + i) = P i k) (x y wd hg wt : Int32) : wr_M l yX0_insert wsX0_insert ({ frames := 3, cells := 0, slots := 0, locals := 72 } : Room) D (BdW ob oc cI (nI n) f) [(cI, .int)] [.ref ob, .int x, .int y, .int wd, .int hg, .int wt] (fun v w9 => v = some (.int (nI n)) ∧ ∃ f9 : Nat → Int32, w9 = BdW ob oc cI (nI (n + 1)) f9 ∧ ∀ i, i < n + 1 → ∀ k, k < 6 → f9 (8 * k + i) = gIns n P x y wd hg wt i k) := by
  refine wr_of (cc := cX0_insert) (maxL := 8) (ret := some .int) (by decide) rfl (Nat.le_of_ble_eq_true rfl) ?_
  intro p e s m below meth c hx hb hr hml hts hown hlocks hP hK hN hZ hD hS ls hl
  have hown : s.vm.findClass RX0 = some m.cls := hown
  have hl : lv_has ls 8 [(0, .ref ob), (1, .int x), (2, .int y), (3, .int wd), (4, .int hg), (5, .int wt)] := hl
  have hinX0 : ∀ w ∈ u_ws RX0 TX0 2, w ∈ wsX0_insert := by decide +kernel
  have hw15 := hts (.fieldLink RX0 15 "CornerLabels$Board" "points" "I") (by decide +kernel)
  have hw11 := hts (.fieldLink RX0 11 "CornerLabels$Board" "cells" "[I") (by decide +kernel)
  suffices body : ∀ (H : Heap) (locs : List Loc), va_P D vwCl (BdW ob oc cI (nI n) f) H → va_D (wr_in (BdW ob oc cI (nI n) f)) (BdW ob oc cI (nI n) f) → va_S (wr_in (BdW ob oc cI (nI n) f)) s.heap H locs → wr_W p l e wsX0_insert ({ frames := 3, cells := 0, slots := 0, locals := 72 } : Room) s m [.ref ob, .int x, .int y, .int wd, .int hg, .int wt] below meth c D (BdW ob oc cI (nI n) f) (fun v w9 => v = some (.int (nI n)) ∧ ∃ f9 : Nat → Int32, w9 = BdW ob oc cI (nI (n + 1)) f9 ∧ ∀ i, i < n + 1 → ∀ k, k < 6 → f9 (8 * k + i) = gIns n P x y wd hg wt i k) H locs (F0 m 0 ls []) from body _ _ hP hD hS
  clear hP hD hS
  intro H locs hP hD hS
  have hbd : bd_in (BdW ob oc cI (nI n) f) [(cI, .int)] ob n P := ⟨0, 1, 0, oc, cI, f, rfl, rfl, rfl, Nat.le_of_lt hn8, hf⟩
  refine lv_aload_n hx hb dX0_insert_0 rfl (lv_at hl 0 rfl) ?_
  refine lv_iload_n hx hb dX0_insert_1 rfl (lv_at hl 1 rfl) ?_
  refine lv_iload_n hx hb dX0_insert_2 rfl (lv_at hl 2 rfl) ?_
  refine rd_callV (As := [.int x, .int y]) (rest := []) ⟨hx, hb, hml, hown, hts⟩ (c_X0_labelOn l D hbd x y) (cwV 2 hts gX0_insert_X0_labelOn rfl rfl rfl (by decide +kernel) ⟨by decide, by decide⟩) hK hN hP (q0 := 0) rfl rfl rfl hl.1 rfl (Nat.le_of_ble_eq_true rfl) ⟨by decide, by decide⟩ dX0_insert_3 ?_
  refine lv_istore (lv' := [(6, .int (gLb n P x y)), (0, .ref ob), (1, .int x), (2, .int y), (3, .int wd), (4, .int hg), (5, .int wt)]) hx hb dX0_insert_6 hl (by decide) rfl (fun ls hl => ?_)
  refine lv_iload hx hb dX0_insert_8 (lv_at hl 0 rfl) ?_
  refine lv_iconst (v := (-1)) hx hb dX0_insert_10 (by decide) ?_
  refine lv_icmp_eq (tgt := 25) hx hb dX0_insert_11 (by decide) (fun c_11 => ?_) (fun c_11 => ?_)
  · refine lv_aload_n hx hb dX0_insert_25 rfl (lv_at hl 1 rfl) ?_
    refine va_get (D := D) (ci := 0) (v := .int (nI n)) (C := RX0) (T := TX0) (N := 2) hx hb hts hinX0 hown hK hP 0 rfl rfl 1 (by decide) hw15 (fun _ h9 => h9) rfl dX0_insert_26 ?_
    refine lv_istore (lv' := [(7, .int (nI n)), (6, .int (gLb n P x y)), (0, .ref ob), (1, .int x), (2, .int y), (3, .int wd), (4, .int hg), (5, .int wt)]) hx hb dX0_insert_29 hl (by decide) rfl (fun ls hl => ?_)
    refine lv_aload_n hx hb dX0_insert_31 rfl (lv_at hl 2 rfl) ?_
    refine lv_dup hx hb dX0_insert_32 rfl ?_
    refine va_get (D := D) (ci := 0) (v := .int (nI n)) (C := RX0) (T := TX0) (N := 2) hx hb hts hinX0 hown hK hP 0 rfl rfl 1 (by decide) hw15 (fun _ h9 => h9) rfl dX0_insert_33 ?_
    refine lv_iconst (v := 1) hx hb dX0_insert_36 (by decide) ?_
    refine lv_iadd hx hb dX0_insert_37 ?_
    refine lv_asi (y := nI (n + 1)) (nI_add n 1) ?_
    refine va_put (D := D) (ci := 0) (v := .int (nI (n + 1))) (ty := .int) (C := RX0) (T := TX0) (N := 2) hx hb hts hinX0 tyX0 tyX0_ok nmX0 hown hK hP hD hS 0 rfl rfl 1 (by decide) hw15 (fun _ h9 => h9) rfl (by decide +kernel) rfl rfl (Nat.le_of_ble_eq_true rfl) dX0_insert_38 (fun H locs hP hD hS => ?_)
    have hP : va_P D vwCl (BdW ob oc cI (nI (n + 1)) f) H := hP
    have hD : va_D (wr_in (BdW ob oc cI (nI n) f)) (BdW ob oc cI (nI (n + 1)) f) := hD
    refine lv_aload_n hx hb dX0_insert_41 rfl (lv_at hl 2 rfl) ?_
    refine va_get (D := D) (ci := 0) (v := .ref oc) (C := RX0) (T := TX0) (N := 2) hx hb hts hinX0 hown hK hP 0 rfl rfl 0 (by decide) hw11 (fun _ h9 => h9) rfl dX0_insert_42 ?_
    refine lv_iconst (v := 0) hx hb dX0_insert_45 (by decide) ?_
    refine lv_iload hx hb dX0_insert_46 (lv_at hl 0 rfl) ?_
    refine lv_iadd hx hb dX0_insert_48 ?_
    refine lv_asi (y := nI (0 + n)) (nI_add 0 n) ?_
    refine lv_iload_n hx hb dX0_insert_49 rfl (lv_at hl 3 rfl) ?_
    refine wr_ast (q0 := 1) (t0 := 0) (j := 0 + n) hx hb hK hP hD hS rfl rfl (rfl) (by omega) (by decide) dX0_insert_50 (fun H locs hP hD hS => ?_)
    obtain ⟨f_50, ef_50⟩ : ∃ zz9 : Nat → Int32, zz9 = upd f (0 + n) x := ⟨_, rfl⟩
    rw [← ef_50] at hP hD
    have hP : va_P D vwCl (BdW ob oc cI (nI (n + 1)) f_50) H := hP
    have hD : va_D (wr_in (BdW ob oc cI (nI n) f)) (BdW ob oc cI (nI (n + 1)) f_50) := hD
    refine lv_aload_n hx hb dX0_insert_51 rfl (lv_at hl 2 rfl) ?_
    refine va_get (D := D) (ci := 0) (v := .ref oc) (C := RX0) (T := TX0) (N := 2) hx hb hts hinX0 hown hK hP 0 rfl rfl 0 (by decide) hw11 (fun _ h9 => h9) rfl dX0_insert_52 ?_
    refine lv_bipush (v := 8) hx hb dX0_insert_55 (by decide) ?_
    refine lv_iload hx hb dX0_insert_57 (lv_at hl 0 rfl) ?_
    refine lv_iadd hx hb dX0_insert_59 ?_
    refine lv_asi (y := nI (8 + n)) (nI_add 8 n) ?_
    refine lv_iload_n hx hb dX0_insert_60 rfl (lv_at hl 4 rfl) ?_
    refine wr_ast (q0 := 1) (t0 := 0) (j := 8 + n) hx hb hK hP hD hS rfl rfl (rfl) (by omega) (by decide) dX0_insert_61 (fun H locs hP hD hS => ?_)
    obtain ⟨f_61, ef_61⟩ : ∃ zz9 : Nat → Int32, zz9 = upd f_50 (8 + n) y := ⟨_, rfl⟩
    rw [← ef_61] at hP hD
    have hP : va_P D vwCl (BdW ob oc cI (nI (n + 1)) f_61) H := hP
    have hD : va_D (wr_in (BdW ob oc cI (nI n) f)) (BdW ob oc cI (nI (n + 1)) f_61) := hD
    refine lv_aload_n hx hb dX0_insert_62 rfl (lv_at hl 2 rfl) ?_
    refine va_get (D := D) (ci := 0) (v := .ref oc) (C := RX0) (T := TX0) (N := 2) hx hb hts hinX0 hown hK hP 0 rfl rfl 0 (by decide) hw11 (fun _ h9 => h9) rfl dX0_insert_63 ?_
    refine lv_bipush (v := 16) hx hb dX0_insert_66 (by decide) ?_
    refine lv_iload hx hb dX0_insert_68 (lv_at hl 0 rfl) ?_
    refine lv_iadd hx hb dX0_insert_70 ?_
    refine lv_asi (y := nI (16 + n)) (nI_add 16 n) ?_
    refine lv_iload_n hx hb dX0_insert_71 rfl (lv_at hl 5 rfl) ?_
    refine wr_ast (q0 := 1) (t0 := 0) (j := 16 + n) hx hb hK hP hD hS rfl rfl (rfl) (by omega) (by decide) dX0_insert_72 (fun H locs hP hD hS => ?_)
    obtain ⟨f_72, ef_72⟩ : ∃ zz9 : Nat → Int32, zz9 = upd f_61 (16 + n) wd := ⟨_, rfl⟩
    rw [← ef_72] at hP hD
    have hP : va_P D vwCl (BdW ob oc cI (nI (n + 1)) f_72) H := hP
    have hD : va_D (wr_in (BdW ob oc cI (nI n) f)) (BdW ob oc cI (nI (n + 1)) f_72) := hD
    refine lv_aload_n hx hb dX0_insert_73 rfl (lv_at hl 2 rfl) ?_
    refine va_get (D := D) (ci := 0) (v := .ref oc) (C := RX0) (T := TX0) (N := 2) hx hb hts hinX0 hown hK hP 0 rfl rfl 0 (by decide) hw11 (fun _ h9 => h9) rfl dX0_insert_74 ?_
    refine lv_bipush (v := 24) hx hb dX0_insert_77 (by decide) ?_
    refine lv_iload hx hb dX0_insert_79 (lv_at hl 0 rfl) ?_
    refine lv_iadd hx hb dX0_insert_81 ?_
    refine lv_asi (y := nI (24 + n)) (nI_add 24 n) ?_
    refine lv_iload hx hb dX0_insert_82 (lv_at hl 6 rfl) ?_
    refine wr_ast (q0 := 1) (t0 := 0) (j := 24 + n) hx hb hK hP hD hS rfl rfl (rfl) (by omega) (by decide) dX0_insert_84 (fun H locs hP hD hS => ?_)
    obtain ⟨f_84, ef_84⟩ : ∃ zz9 : Nat → Int32, zz9 = upd f_72 (24 + n) hg := ⟨_, rfl⟩
    rw [← ef_84] at hP hD
    have hP : va_P D vwCl (BdW ob oc cI (nI (n + 1)) f_84) H := hP
    have hD : va_D (wr_in (BdW ob oc cI (nI n) f)) (BdW ob oc cI (nI (n + 1)) f_84) := hD
    refine lv_aload_n hx hb dX0_insert_85 rfl (lv_at hl 2 rfl) ?_
    refine va_get (D := D) (ci := 0) (v := .ref oc) (C := RX0) (T := TX0) (N := 2) hx hb hts hinX0 hown hK hP 0 rfl rfl 0 (by decide) hw11 (fun _ h9 => h9) rfl dX0_insert_86 ?_
    refine lv_bipush (v := 32) hx hb dX0_insert_89 (by decide) ?_
    refine lv_iload hx hb dX0_insert_91 (lv_at hl 0 rfl) ?_
    refine lv_iadd hx hb dX0_insert_93 ?_
    refine lv_asi (y := nI (32 + n)) (nI_add 32 n) ?_
    refine lv_iload hx hb dX0_insert_94 (lv_at hl 7 rfl) ?_
    refine wr_ast (q0 := 1) (t0 := 0) (j := 32 + n) hx hb hK hP hD hS rfl rfl (rfl) (by omega) (by decide) dX0_insert_96 (fun H locs hP hD hS => ?_)
    obtain ⟨f_96, ef_96⟩ : ∃ zz9 : Nat → Int32, zz9 = upd f_84 (32 + n) wt := ⟨_, rfl⟩
    rw [← ef_96] at hP hD
    have hP : va_P D vwCl (BdW ob oc cI (nI (n + 1)) f_96) H := hP
    have hD : va_D (wr_in (BdW ob oc cI (nI n) f)) (BdW ob oc cI (nI (n + 1)) f_96) := hD
    refine lv_aload_n hx hb dX0_insert_97 rfl (lv_at hl 2 rfl) ?_
    refine va_get (D := D) (ci := 0) (v := .ref oc) (C := RX0) (T := TX0) (N := 2) hx hb hts hinX0 hown hK hP 0 rfl rfl 0 (by decide) hw11 (fun _ h9 => h9) rfl dX0_insert_98 ?_
    refine lv_bipush (v := 40) hx hb dX0_insert_101 (by decide) ?_
    refine lv_iload hx hb dX0_insert_103 (lv_at hl 0 rfl) ?_
    refine lv_iadd hx hb dX0_insert_105 ?_
    refine lv_asi (y := nI (40 + n)) (nI_add 40 n) ?_
    refine lv_iconst (v := (-1)) hx hb dX0_insert_106 (by decide) ?_
    refine wr_ast (q0 := 1) (t0 := 0) (j := 40 + n) hx hb hK hP hD hS rfl rfl (rfl) (by omega) (by decide) dX0_insert_107 (fun H locs hP hD hS => ?_)
    obtain ⟨f_107, ef_107⟩ : ∃ zz9 : Nat → Int32, zz9 = upd f_96 (40 + n) (-1) := ⟨_, rfl⟩
    rw [← ef_107] at hP hD
    have hP : va_P D vwCl (BdW ob oc cI (nI (n + 1)) f_107) H := hP
    have hD : va_D (wr_in (BdW ob oc cI (nI n) f)) (BdW ob oc cI (nI (n + 1)) f_107) := hD
    refine lv_iload hx hb dX0_insert_108 (lv_at hl 0 rfl) ?_
    exact wr_iret hx hb hr hlocks hP hS rfl dX0_insert_110 (by refine ⟨rfl, _, rfl, fun i hi k hk => ?_⟩; rw [ef_107, ef_96, ef_84, ef_72, ef_61, ef_50]; exact gIns_ok_none hf hn8 c_11 i hi k hk)
  · obtain ⟨z, hz, ez⟩ := gLb_cases (n := n) (P := P) (x := x) (y := y) c_11
    rw [ez] at hl
    have hl : lv_has ls 8 [(6, .int (nI z)), (0, .ref ob), (1, .int x), (2, .int y), (3, .int wd), (4, .int hg), (5, .int wt)] := hl
    refine lv_aload_n hx hb dX0_insert_14 rfl (lv_at hl 1 rfl) ?_
    refine va_get (D := D) (ci := 0) (v := .ref oc) (C := RX0) (T := TX0) (N := 2) hx hb hts hinX0 hown hK hP 0 rfl rfl 0 (by decide) hw11 (fun _ h9 => h9) rfl dX0_insert_15 ?_
    refine lv_bipush (v := 40) hx hb dX0_insert_18 (by decide) ?_
    refine lv_iload hx hb dX0_insert_20 (lv_at hl 0 rfl) ?_
    refine lv_iadd hx hb dX0_insert_22 ?_
    refine lv_asi (y := nI (40 + z)) (nI_add 40 z) ?_
    refine lv_iconst (v := (-1)) hx hb dX0_insert_23 (by decide) ?_
    refine wr_ast (q0 := 1) (t0 := 0) (j := 40 + z) hx hb hK hP hD hS rfl rfl (rfl) (by omega) (by decide) dX0_insert_24 (fun H locs hP hD hS => ?_)
    obtain ⟨f_24, ef_24⟩ : ∃ zz9 : Nat → Int32, zz9 = upd f (40 + z) (-1) := ⟨_, rfl⟩
    rw [← ef_24] at hP hD
    have hP : va_P D vwCl (BdW ob oc cI (nI n) f_24) H := hP
    have hD : va_D (wr_in (BdW ob oc cI (nI n) f)) (BdW ob oc cI (nI n) f_24) := hD
    refine lv_aload_n hx hb dX0_insert_25 rfl (lv_at hl 1 rfl) ?_
    refine va_get (D := D) (ci := 0) (v := .int (nI n)) (C := RX0) (T := TX0) (N := 2) hx hb hts hinX0 hown hK hP 0 rfl rfl 1 (by decide) hw15 (fun _ h9 => h9) rfl dX0_insert_26 ?_
    refine lv_istore (lv' := [(7, .int (nI n)), (6, .int (nI z)), (0, .ref ob), (1, .int x), (2, .int y), (3, .int wd), (4, .int hg), (5, .int wt)]) hx hb dX0_insert_29 hl (by decide) rfl (fun ls hl => ?_)
    refine lv_aload_n hx hb dX0_insert_31 rfl (lv_at hl 2 rfl) ?_
    refine lv_dup hx hb dX0_insert_32 rfl ?_
    refine va_get (D := D) (ci := 0) (v := .int (nI n)) (C := RX0) (T := TX0) (N := 2) hx hb hts hinX0 hown hK hP 0 rfl rfl 1 (by decide) hw15 (fun _ h9 => h9) rfl dX0_insert_33 ?_
    refine lv_iconst (v := 1) hx hb dX0_insert_36 (by decide) ?_
    refine lv_iadd hx hb dX0_insert_37 ?_
    refine lv_asi (y := nI (n + 1)) (nI_add n 1) ?_
    refine va_put (D := D) (ci := 0) (v := .int (nI (n + 1))) (ty := .int) (C := RX0) (T := TX0) (N := 2) hx hb hts hinX0 tyX0 tyX0_ok nmX0 hown hK hP hD hS 0 rfl rfl 1 (by decide) hw15 (fun _ h9 => h9) rfl (by decide +kernel) rfl rfl (Nat.le_of_ble_eq_true rfl) dX0_insert_38 (fun H locs hP hD hS => ?_)
    have hP : va_P D vwCl (BdW ob oc cI (nI (n + 1)) f_24) H := hP
    have hD : va_D (wr_in (BdW ob oc cI (nI n) f)) (BdW ob oc cI (nI (n + 1)) f_24) := hD
    refine lv_aload_n hx hb dX0_insert_41 rfl (lv_at hl 2 rfl) ?_
    refine va_get (D := D) (ci := 0) (v := .ref oc) (C := RX0) (T := TX0) (N := 2) hx hb hts hinX0 hown hK hP 0 rfl rfl 0 (by decide) hw11 (fun _ h9 => h9) rfl dX0_insert_42 ?_
    refine lv_iconst (v := 0) hx hb dX0_insert_45 (by decide) ?_
    refine lv_iload hx hb dX0_insert_46 (lv_at hl 0 rfl) ?_
    refine lv_iadd hx hb dX0_insert_48 ?_
    refine lv_asi (y := nI (0 + n)) (nI_add 0 n) ?_
    refine lv_iload_n hx hb dX0_insert_49 rfl (lv_at hl 3 rfl) ?_
    refine wr_ast (q0 := 1) (t0 := 0) (j := 0 + n) hx hb hK hP hD hS rfl rfl (rfl) (by omega) (by decide) dX0_insert_50 (fun H locs hP hD hS => ?_)
    obtain ⟨f_50, ef_50⟩ : ∃ zz9 : Nat → Int32, zz9 = upd f_24 (0 + n) x := ⟨_, rfl⟩
    rw [← ef_50] at hP hD
    have hP : va_P D vwCl (BdW ob oc cI (nI (n + 1)) f_50) H := hP
    have hD : va_D (wr_in (BdW ob oc cI (nI n) f)) (BdW ob oc cI (nI (n + 1)) f_50) := hD
    refine lv_aload_n hx hb dX0_insert_51 rfl (lv_at hl 2 rfl) ?_
    refine va_get (D := D) (ci := 0) (v := .ref oc) (C := RX0) (T := TX0) (N := 2) hx hb hts hinX0 hown hK hP 0 rfl rfl 0 (by decide) hw11 (fun _ h9 => h9) rfl dX0_insert_52 ?_
    refine lv_bipush (v := 8) hx hb dX0_insert_55 (by decide) ?_
    refine lv_iload hx hb dX0_insert_57 (lv_at hl 0 rfl) ?_
    refine lv_iadd hx hb dX0_insert_59 ?_
    refine lv_asi (y := nI (8 + n)) (nI_add 8 n) ?_
    refine lv_iload_n hx hb dX0_insert_60 rfl (lv_at hl 4 rfl) ?_
    refine wr_ast (q0 := 1) (t0 := 0) (j := 8 + n) hx hb hK hP hD hS rfl rfl (rfl) (by omega) (by decide) dX0_insert_61 (fun H locs hP hD hS => ?_)
    obtain ⟨f_61, ef_61⟩ : ∃ zz9 : Nat → Int32, zz9 = upd f_50 (8 + n) y := ⟨_, rfl⟩
    rw [← ef_61] at hP hD
    have hP : va_P D vwCl (BdW ob oc cI (nI (n + 1)) f_61) H := hP
    have hD : va_D (wr_in (BdW ob oc cI (nI n) f)) (BdW ob oc cI (nI (n + 1)) f_61) := hD
    refine lv_aload_n hx hb dX0_insert_62 rfl (lv_at hl 2 rfl) ?_
    refine va_get (D := D) (ci := 0) (v := .ref oc) (C := RX0) (T := TX0) (N := 2) hx hb hts hinX0 hown hK hP 0 rfl rfl 0 (by decide) hw11 (fun _ h9 => h9) rfl dX0_insert_63 ?_
    refine lv_bipush (v := 16) hx hb dX0_insert_66 (by decide) ?_
    refine lv_iload hx hb dX0_insert_68 (lv_at hl 0 rfl) ?_
    refine lv_iadd hx hb dX0_insert_70 ?_
    refine lv_asi (y := nI (16 + n)) (nI_add 16 n) ?_
    refine lv_iload_n hx hb dX0_insert_71 rfl (lv_at hl 5 rfl) ?_
    refine wr_ast (q0 := 1) (t0 := 0) (j := 16 + n) hx hb hK hP hD hS rfl rfl (rfl) (by omega) (by decide) dX0_insert_72 (fun H locs hP hD hS => ?_)
    obtain ⟨f_72, ef_72⟩ : ∃ zz9 : Nat → Int32, zz9 = upd f_61 (16 + n) wd := ⟨_, rfl⟩
    rw [← ef_72] at hP hD
    have hP : va_P D vwCl (BdW ob oc cI (nI (n + 1)) f_72) H := hP
    have hD : va_D (wr_in (BdW ob oc cI (nI n) f)) (BdW ob oc cI (nI (n + 1)) f_72) := hD
    refine lv_aload_n hx hb dX0_insert_73 rfl (lv_at hl 2 rfl) ?_
    refine va_get (D := D) (ci := 0) (v := .ref oc) (C := RX0) (T := TX0) (N := 2) hx hb hts hinX0 hown hK hP 0 rfl rfl 0 (by decide) hw11 (fun _ h9 => h9) rfl dX0_insert_74 ?_
    refine lv_bipush (v := 24) hx hb dX0_insert_77 (by decide) ?_
    refine lv_iload hx hb dX0_insert_79 (lv_at hl 0 rfl) ?_
    refine lv_iadd hx hb dX0_insert_81 ?_
    refine lv_asi (y := nI (24 + n)) (nI_add 24 n) ?_
    refine lv_iload hx hb dX0_insert_82 (lv_at hl 6 rfl) ?_
    refine wr_ast (q0 := 1) (t0 := 0) (j := 24 + n) hx hb hK hP hD hS rfl rfl (rfl) (by omega) (by decide) dX0_insert_84 (fun H locs hP hD hS => ?_)
    obtain ⟨f_84, ef_84⟩ : ∃ zz9 : Nat → Int32, zz9 = upd f_72 (24 + n) hg := ⟨_, rfl⟩
    rw [← ef_84] at hP hD
    have hP : va_P D vwCl (BdW ob oc cI (nI (n + 1)) f_84) H := hP
    have hD : va_D (wr_in (BdW ob oc cI (nI n) f)) (BdW ob oc cI (nI (n + 1)) f_84) := hD
    refine lv_aload_n hx hb dX0_insert_85 rfl (lv_at hl 2 rfl) ?_
    refine va_get (D := D) (ci := 0) (v := .ref oc) (C := RX0) (T := TX0) (N := 2) hx hb hts hinX0 hown hK hP 0 rfl rfl 0 (by decide) hw11 (fun _ h9 => h9) rfl dX0_insert_86 ?_
    refine lv_bipush (v := 32) hx hb dX0_insert_89 (by decide) ?_
    refine lv_iload hx hb dX0_insert_91 (lv_at hl 0 rfl) ?_
    refine lv_iadd hx hb dX0_insert_93 ?_
    refine lv_asi (y := nI (32 + n)) (nI_add 32 n) ?_
    refine lv_iload hx hb dX0_insert_94 (lv_at hl 7 rfl) ?_
    refine wr_ast (q0 := 1) (t0 := 0) (j := 32 + n) hx hb hK hP hD hS rfl rfl (rfl) (by omega) (by decide) dX0_insert_96 (fun H locs hP hD hS => ?_)
    obtain ⟨f_96, ef_96⟩ : ∃ zz9 : Nat → Int32, zz9 = upd f_84 (32 + n) wt := ⟨_, rfl⟩
    rw [← ef_96] at hP hD
    have hP : va_P D vwCl (BdW ob oc cI (nI (n + 1)) f_96) H := hP
    have hD : va_D (wr_in (BdW ob oc cI (nI n) f)) (BdW ob oc cI (nI (n + 1)) f_96) := hD
    refine lv_aload_n hx hb dX0_insert_97 rfl (lv_at hl 2 rfl) ?_
    refine va_get (D := D) (ci := 0) (v := .ref oc) (C := RX0) (T := TX0) (N := 2) hx hb hts hinX0 hown hK hP 0 rfl rfl 0 (by decide) hw11 (fun _ h9 => h9) rfl dX0_insert_98 ?_
    refine lv_bipush (v := 40) hx hb dX0_insert_101 (by decide) ?_
    refine lv_iload hx hb dX0_insert_103 (lv_at hl 0 rfl) ?_
    refine lv_iadd hx hb dX0_insert_105 ?_
    refine lv_asi (y := nI (40 + n)) (nI_add 40 n) ?_
    refine lv_iconst (v := (-1)) hx hb dX0_insert_106 (by decide) ?_
    refine wr_ast (q0 := 1) (t0 := 0) (j := 40 + n) hx hb hK hP hD hS rfl rfl (rfl) (by omega) (by decide) dX0_insert_107 (fun H locs hP hD hS => ?_)
    obtain ⟨f_107, ef_107⟩ : ∃ zz9 : Nat → Int32, zz9 = upd f_96 (40 + n) (-1) := ⟨_, rfl⟩
    rw [← ef_107] at hP hD
    have hP : va_P D vwCl (BdW ob oc cI (nI (n + 1)) f_107) H := hP
    have hD : va_D (wr_in (BdW ob oc cI (nI n) f)) (BdW ob oc cI (nI (n + 1)) f_107) := hD
    refine lv_iload hx hb dX0_insert_108 (lv_at hl 0 rfl) ?_
    exact wr_iret hx hb hr hlocks hP hS rfl dX0_insert_110 (by refine ⟨rfl, _, rfl, fun i hi k hk => ?_⟩; rw [ef_107, ef_96, ef_84, ef_72, ef_61, ef_50, ef_24]; exact gIns_ok_some hf hn8 hz ez i hi k hk)
set_option maxHeartbeats 4000000 in
set_option maxRecDepth 100000 in
theorem c_X0_flip (l : Launch) (D : va_G) {ob oc : Nat} {cI : ClassId} {n : Nat} {P : Nat → Nat → Int32} {f : Nat → Int32} (hn8 : n ≤ 8) (hf : ∀ i, i < n → ∀ k, k < 6 → f (8 * k + i) = P i k) : wr_M l yX0_flip wsX0_flip ({ frames := 1, cells := 0, slots := 0, locals := 21 } : Room) D (BdW ob oc cI (nI n) f) [(cI, .int)] [.ref ob] (fun v w9 => v = none ∧ ∃ f9 : Nat → Int32, w9 = BdW ob oc cI (nI n) f9 ∧ ∀ i, i < n → ∀ k, k < 6 → f9 (8 * k + i) = gFlp P i k) := by
  refine wr_of (cc := cX0_flip) (maxL := 2) (ret := none) (by decide) rfl (Nat.le_of_ble_eq_true rfl) ?_
  intro p e s m below meth c hx hb hr hml hts hown hlocks hP hK hN hZ hD hS ls hl
  have hown : s.vm.findClass RX0 = some m.cls := hown
  have hl : lv_has ls 2 [(0, .ref ob)] := hl
  have hinX0 : ∀ w ∈ u_ws RX0 TX0 2, w ∈ wsX0_flip := by decide +kernel
  have hw15 := hts (.fieldLink RX0 15 "CornerLabels$Board" "points" "I") (by decide +kernel)
  have hw11 := hts (.fieldLink RX0 11 "CornerLabels$Board" "cells" "[I") (by decide +kernel)
  suffices body : ∀ (H : Heap) (locs : List Loc), va_P D vwCl (BdW ob oc cI (nI n) f) H → va_D (wr_in (BdW ob oc cI (nI n) f)) (BdW ob oc cI (nI n) f) → va_S (wr_in (BdW ob oc cI (nI n) f)) s.heap H locs → wr_W p l e wsX0_flip ({ frames := 1, cells := 0, slots := 0, locals := 21 } : Room) s m [.ref ob] below meth c D (BdW ob oc cI (nI n) f) (fun v w9 => v = none ∧ ∃ f9 : Nat → Int32, w9 = BdW ob oc cI (nI n) f9 ∧ ∀ i, i < n → ∀ k, k < 6 → f9 (8 * k + i) = gFlp P i k) H locs (F0 m 0 ls []) from body _ _ hP hD hS
  clear hP hD hS
  intro H locs hP hD hS
  refine lv_iconst (v := 0) hx hb dX0_flip_0 (by decide) ?_
  refine lv_istore_n (lv' := [(1, .int 0), (0, .ref ob)]) hx hb dX0_flip_1 rfl hl (by decide) rfl (fun ls hl => ?_)
  suffices loop2 : ∀ (k2 i : Nat) (f1 : Nat → Int32) (H : Heap) (locs : List Loc) (ls : Array Slot), i ≤ n → n + 1 ≤ i + k2 → (∀ j, j < n → ∀ k, k < 6 → f1 (8 * k + j) = if j < i then gFlp P j k else P j k) → va_P D vwCl (BdW ob oc cI (nI n) f1) H → va_D (wr_in (BdW ob oc cI (nI n) f)) (BdW ob oc cI (nI n) f1) → va_S (wr_in (BdW ob oc cI (nI n) f)) s.heap H locs → lv_has ls 2 [(0, .ref ob), (1, .int (nI i))] → wr_W p l e wsX0_flip ({ frames := 1, cells := 0, slots := 0, locals := 21 } : Room) s m [.ref ob] below meth c D (BdW ob oc cI (nI n) f) (fun v w9 => v = none ∧ ∃ f9 : Nat → Int32, w9 = BdW ob oc cI (nI n) f9 ∧ ∀ i, i < n → ∀ k, k < 6 → f9 (8 * k + i) = gFlp P i k) H locs (F0 m 2 ls []) from
    loop2 (n + 1) 0 f H locs ls (by omega) (by omega) (by intro j hj k hk; rw [if_neg (Nat.not_lt_zero j)]; exact hf j hj k hk) hP hD hS (lv_sub hl [1, 0] rfl)
  intro k2
  induction k2 with
  | zero => intro i f1 H locs ls h1 h2; exact absurd h2 (by omega)
  | succ k2 ih2 =>
    intro i f1 H locs ls hle2 hlt2 inv2 hP hD hS hl
    refine lv_iload_n hx hb dX0_flip_2 rfl (lv_at hl 1 rfl) ?_
    refine lv_aload_n hx hb dX0_flip_3 rfl (lv_at hl 0 rfl) ?_
    refine va_get (D := D) (ci := 0) (v := .int (nI n)) (C := RX0) (T := TX0) (N := 2) hx hb hts hinX0 hown hK hP 0 rfl rfl 1 (by decide) hw15 (fun _ h9 => h9) rfl dX0_flip_4 ?_
    refine rd_icmp_ge_n (a := i) (b := n) (tgt := 63) (by omega) (by omega) hx hb dX0_flip_7 (by decide) (fun c_7 => ?_) (fun c_7 => ?_)
    · have c_7n := Nat.not_lt.mpr c_7
      exact wr_vret hx hb hr hlocks hP hS rfl dX0_flip_63 (by exact ⟨rfl, _, rfl, fun j hj k hk => by rw [inv2 j hj k hk, if_pos (Nat.lt_of_lt_of_le hj c_7)]⟩)
    · have c_7n := Nat.not_le.mpr c_7
      refine lv_aload_n hx hb dX0_flip_10 rfl (lv_at hl 0 rfl) ?_
      refine va_get (D := D) (ci := 0) (v := .ref oc) (C := RX0) (T := TX0) (N := 2) hx hb hts hinX0 hown hK hP 0 rfl rfl 0 (by decide) hw11 (fun _ h9 => h9) rfl dX0_flip_11 ?_
      refine lv_iconst (v := 0) hx hb dX0_flip_14 (by decide) ?_
      refine lv_iload_n hx hb dX0_flip_15 rfl (lv_at hl 1 rfl) ?_
      refine lv_iadd hx hb dX0_flip_16 ?_
      refine lv_asi (y := nI (0 + i)) (nI_add 0 i) ?_
      refine lv_bipush (v := 59) hx hb dX0_flip_17 (by decide) ?_
      refine lv_aload_n hx hb dX0_flip_19 rfl (lv_at hl 0 rfl) ?_
      refine va_get (D := D) (ci := 0) (v := .ref oc) (C := RX0) (T := TX0) (N := 2) hx hb hts hinX0 hown hK hP 0 rfl rfl 0 (by decide) hw11 (fun _ h9 => h9) rfl dX0_flip_20 ?_
      refine lv_iconst (v := 0) hx hb dX0_flip_23 (by decide) ?_
      refine lv_iload_n hx hb dX0_flip_24 rfl (lv_at hl 1 rfl) ?_
      refine lv_iadd hx hb dX0_flip_25 ?_
      refine lv_asi (y := nI (0 + i)) (nI_add 0 i) ?_
      refine rd_ald (q0 := 1) (t0 := 0) (j := 0 + i) (v := P i 0) hx hb hK hP rfl rfl (rfl) (by omega) (by decide) (gFlp_x c_7 inv2) dX0_flip_26 ?_
      refine lv_isub hx hb dX0_flip_27 ?_
      refine wr_ast (q0 := 1) (t0 := 0) (j := 0 + i) hx hb hK hP hD hS rfl rfl (rfl) (by omega) (by decide) dX0_flip_28 (fun H locs hP hD hS => ?_)
      obtain ⟨f_28, ef_28⟩ : ∃ zz9 : Nat → Int32, zz9 = upd f1 (0 + i) (59 - (P i 0)) := ⟨_, rfl⟩
      rw [← ef_28] at hP hD
      have hP : va_P D vwCl (BdW ob oc cI (nI n) f_28) H := hP
      have hD : va_D (wr_in (BdW ob oc cI (nI n) f)) (BdW ob oc cI (nI n) f_28) := hD
      have hbd : bd_in (BdW ob oc cI (nI n) f_28) [(cI, .int)] ob n (gFlpQ P i) := ⟨0, 1, 0, oc, cI, f_28, rfl, rfl, rfl, hn8, gFlp_half c_7 hn8 inv2 ef_28⟩
      refine lv_aload_n hx hb dX0_flip_29 rfl (lv_at hl 0 rfl) ?_
      refine lv_iload_n hx hb dX0_flip_30 rfl (lv_at hl 1 rfl) ?_
      refine rd_callV (As := [.int (nI i)]) (rest := []) ⟨hx, hb, hml, hown, hts⟩ (c_X0_stands l D hbd c_7) (cwV 1 hts gX0_flip_X0_stands rfl rfl rfl (by decide +kernel) ⟨by decide, by decide⟩) hK hN hP (q0 := 0) rfl rfl rfl hl.1 rfl (Nat.le_of_ble_eq_true rfl) ⟨by decide, by decide⟩ dX0_flip_31 ?_
      refine rd_ifeq_b (tgt := 57) hx hb dX0_flip_34 (by decide) (fun c_34 => ?_) (fun c_34 => ?_)
      · refine lv_iinc (v := nI (i + 1)) (lv' := [(1, .int (nI (i + 1))), (0, .ref ob)]) hx hb dX0_flip_57 hl (k := 1) rfl (nI_add i 1) (by decide) rfl (fun ls hl => ?_)
        refine lv_goto (tgt := 2) hx hb dX0_flip_60 (by decide) ?_
        exact ih2 (i + 1) f_28 H locs ls (by omega) (by omega) (by exact gFlp_step_f c_7 hn8 inv2 ef_28 c_34) hP hD hS (lv_sub hl [1, 0] rfl)
      · refine lv_aload_n hx hb dX0_flip_37 rfl (lv_at hl 0 rfl) ?_
        refine va_get (D := D) (ci := 0) (v := .ref oc) (C := RX0) (T := TX0) (N := 2) hx hb hts hinX0 hown hK hP 0 rfl rfl 0 (by decide) hw11 (fun _ h9 => h9) rfl dX0_flip_38 ?_
        refine lv_bipush (v := 40) hx hb dX0_flip_41 (by decide) ?_
        refine lv_iload_n hx hb dX0_flip_43 rfl (lv_at hl 1 rfl) ?_
        refine lv_iadd hx hb dX0_flip_44 ?_
        refine lv_asi (y := nI (40 + i)) (nI_add 40 i) ?_
        refine lv_aload_n hx hb dX0_flip_45 rfl (lv_at hl 0 rfl) ?_
        refine va_get (D := D) (ci := 0) (v := .ref oc) (C := RX0) (T := TX0) (N := 2) hx hb hts hinX0 hown hK hP 0 rfl rfl 0 (by decide) hw11 (fun _ h9 => h9) rfl dX0_flip_46 ?_
        refine lv_bipush (v := 40) hx hb dX0_flip_49 (by decide) ?_
        refine lv_iload_n hx hb dX0_flip_51 rfl (lv_at hl 1 rfl) ?_
        refine lv_iadd hx hb dX0_flip_52 ?_
        refine lv_asi (y := nI (40 + i)) (nI_add 40 i) ?_
        refine rd_ald (q0 := 1) (t0 := 0) (j := 40 + i) (v := P i 5) hx hb hK hP rfl rfl (rfl) (by omega) (by decide) (gFlp_c c_7 hn8 inv2 ef_28) dX0_flip_53 ?_
        refine lv_iconst (v := 1) hx hb dX0_flip_54 (by decide) ?_
        refine lv_ixor hx hb dX0_flip_55 ?_
        refine wr_ast (q0 := 1) (t0 := 0) (j := 40 + i) hx hb hK hP hD hS rfl rfl (rfl) (by omega) (by decide) dX0_flip_56 (fun H locs hP hD hS => ?_)
        obtain ⟨f_56, ef_56⟩ : ∃ zz9 : Nat → Int32, zz9 = upd f_28 (40 + i) ((P i 5) ^^^ 1) := ⟨_, rfl⟩
        rw [← ef_56] at hP hD
        have hP : va_P D vwCl (BdW ob oc cI (nI n) f_56) H := hP
        have hD : va_D (wr_in (BdW ob oc cI (nI n) f)) (BdW ob oc cI (nI n) f_56) := hD
        refine lv_iinc (v := nI (i + 1)) (lv' := [(1, .int (nI (i + 1))), (0, .ref ob)]) hx hb dX0_flip_57 hl (k := 1) rfl (nI_add i 1) (by decide) rfl (fun ls hl => ?_)
        refine lv_goto (tgt := 2) hx hb dX0_flip_60 (by decide) ?_
        exact ih2 (i + 1) f_56 H locs ls (by omega) (by omega) (by exact gFlp_step_t c_7 hn8 inv2 ef_28 ef_56 c_34) hP hD hS (lv_sub hl [1, 0] rfl)
set_option maxHeartbeats 4000000 in
set_option maxRecDepth 100000 in
theorem c_X0_takeOut (l : Launch) (D : va_G) {ob oc : Nat} {cI : ClassId} {mm pt : Nat} {P : Nat → Nat → Int32} {f : Nat → Int32} (hm : mm < 8) (hpt : pt ≤ mm) (hf : ∀ i, i < mm + 1 → ∀ k, k < 6 → f (8 * k + i) = P i k) : wr_M l yX0_takeOut wsX0_takeOut ({ frames := 0, cells := 0, slots := 0, locals := 0 } : Room) D (BdW ob oc cI (nI (mm + 1)) f) [(cI, .int)] [.ref ob, .int (nI pt)] (fun v w9 => v = none ∧ ∃ f9 : Nat → Int32, w9 = BdW ob oc cI (nI mm) f9 ∧ ∀ i, i < mm → ∀ k, k < 6 → f9 (8 * k + i) = gOut P pt i k) := by
  refine wr_of (cc := cX0_takeOut) (maxL := 4) (ret := none) (by decide) rfl (Nat.le_of_ble_eq_true rfl) ?_
  intro p e s m below meth c hx hb hr hml hts hown hlocks hP hK hN hZ hD hS ls hl
  have hown : s.vm.findClass RX0 = some m.cls := hown
  have hl : lv_has ls 4 [(0, .ref ob), (1, .int (nI pt))] := hl
  have hinX0 : ∀ w ∈ u_ws RX0 TX0 2, w ∈ wsX0_takeOut := by decide +kernel
  have hw15 := hts (.fieldLink RX0 15 "CornerLabels$Board" "points" "I") (by decide +kernel)
  have hw11 := hts (.fieldLink RX0 11 "CornerLabels$Board" "cells" "[I") (by decide +kernel)
  suffices body : ∀ (H : Heap) (locs : List Loc), va_P D vwCl (BdW ob oc cI (nI (mm + 1)) f) H → va_D (wr_in (BdW ob oc cI (nI (mm + 1)) f)) (BdW ob oc cI (nI (mm + 1)) f) → va_S (wr_in (BdW ob oc cI (nI (mm + 1)) f)) s.heap H locs → wr_W p l e wsX0_takeOut ({ frames := 0, cells := 0, slots := 0, locals := 0 } : Room) s m [.ref ob, .int (nI pt)] below meth c D (BdW ob oc cI (nI (mm + 1)) f) (fun v w9 => v = none ∧ ∃ f9 : Nat → Int32, w9 = BdW ob oc cI (nI mm) f9 ∧ ∀ i, i < mm → ∀ k, k < 6 → f9 (8 * k + i) = gOut P pt i k) H locs (F0 m 0 ls []) from body _ _ hP hD hS
  clear hP hD hS
  intro H locs hP hD hS
  refine lv_aload_n hx hb dX0_takeOut_0 rfl (lv_at hl 0 rfl) ?_
  refine lv_dup hx hb dX0_takeOut_1 rfl ?_
  refine va_get (D := D) (ci := 0) (v := .int (nI (mm + 1))) (C := RX0) (T := TX0) (N := 2) hx hb hts hinX0 hown hK hP 0 rfl rfl 1 (by decide) hw15 (fun _ h9 => h9) rfl dX0_takeOut_2 ?_
  refine lv_iconst (v := 1) hx hb dX0_takeOut_5 (by decide) ?_
  refine lv_isub hx hb dX0_takeOut_6 ?_
  refine lv_asi (y := nI mm) (nI_pred mm) ?_
  refine va_put (D := D) (ci := 0) (v := .int (nI mm)) (ty := .int) (C := RX0) (T := TX0) (N := 2) hx hb hts hinX0 tyX0 tyX0_ok nmX0 hown hK hP hD hS 0 rfl rfl 1 (by decide) hw15 (fun _ h9 => h9) rfl (by decide +kernel) rfl rfl (Nat.le_of_ble_eq_true rfl) dX0_takeOut_7 (fun H locs hP hD hS => ?_)
  have hP : va_P D vwCl (BdW ob oc cI (nI mm) f) H := hP
  have hD : va_D (wr_in (BdW ob oc cI (nI (mm + 1)) f)) (BdW ob oc cI (nI mm) f) := hD
  refine lv_iconst (v := 0) hx hb dX0_takeOut_10 (by decide) ?_
  refine lv_istore_n (lv' := [(2, .int 0), (0, .ref ob), (1, .int (nI pt))]) hx hb dX0_takeOut_11 rfl hl (by decide) rfl (fun ls hl => ?_)
  suffices loop12 : ∀ (k12 d : Nat) (f1 : Nat → Int32) (H : Heap) (locs : List Loc) (ls : Array Slot), d ≤ 48 → 48 + 1 ≤ d + k12 → (∃ q : Nat, d = 8 * q ∧ ∀ z, z < 48 → f1 z = if z / 8 < q ∧ pt ≤ z % 8 ∧ z % 8 < mm then f (z + 1) else f z) → va_P D vwCl (BdW ob oc cI (nI mm) f1) H → va_D (wr_in (BdW ob oc cI (nI (mm + 1)) f)) (BdW ob oc cI (nI mm) f1) → va_S (wr_in (BdW ob oc cI (nI (mm + 1)) f)) s.heap H locs → lv_has ls 4 [(0, .ref ob), (1, .int (nI pt)), (2, .int (nI d))] → wr_W p l e wsX0_takeOut ({ frames := 0, cells := 0, slots := 0, locals := 0 } : Room) s m [.ref ob, .int (nI pt)] below meth c D (BdW ob oc cI (nI (mm + 1)) f) (fun v w9 => v = none ∧ ∃ f9 : Nat → Int32, w9 = BdW ob oc cI (nI mm) f9 ∧ ∀ i, i < mm → ∀ k, k < 6 → f9 (8 * k + i) = gOut P pt i k) H locs (F0 m 12 ls []) from
    loop12 (48 + 1) 0 f H locs ls (by omega) (by omega) (by exact ⟨0, rfl, fun z _ => by rw [if_neg (by omega)]⟩) hP hD hS (lv_sub hl [1, 2, 0] rfl)
  intro k12
  induction k12 with
  | zero => intro d f1 H locs ls h1 h2; exact absurd h2 (by omega)
  | succ k12 ih12 =>
    intro d f1 H locs ls hle12 hlt12 inv12 hP hD hS hl
    obtain ⟨q, hq, hin⟩ := inv12
    refine lv_iload_n hx hb dX0_takeOut_12 rfl (lv_at hl 2 rfl) ?_
    refine lv_bipush (v := 48) hx hb dX0_takeOut_13 (by decide) ?_
    refine rd_icmp_ge_n (a := d) (b := 48) (tgt := 58) (by omega) (by omega) hx hb dX0_takeOut_15 (by decide) (fun c_15 => ?_) (fun c_15 => ?_)
    · have c_15n := Nat.not_lt.mpr c_15
      exact wr_vret hx hb hr hlocks hP hS rfl dX0_takeOut_58 (by exact ⟨rfl, _, rfl, gOut_fin hm hq hin hf (by omega)⟩)
    · have c_15n := Nat.not_le.mpr c_15
      refine lv_iload_n hx hb dX0_takeOut_18 rfl (lv_at hl 1 rfl) ?_
      refine lv_istore_n (lv' := [(3, .int (nI pt)), (0, .ref ob), (1, .int (nI pt)), (2, .int (nI d))]) hx hb dX0_takeOut_19 rfl hl (by decide) rfl (fun ls hl => ?_)
      suffices loop20 : ∀ (k20 e0 : Nat) (f2 : Nat → Int32) (H : Heap) (locs : List Loc) (ls : Array Slot), e0 ≤ mm → mm + 1 ≤ e0 + k20 → (pt ≤ e0 ∧ ∀ z, f2 z = if d + pt ≤ z ∧ z < d + e0 then f1 (z + 1) else f1 z) → va_P D vwCl (BdW ob oc cI (nI mm) f2) H → va_D (wr_in (BdW ob oc cI (nI (mm + 1)) f)) (BdW ob oc cI (nI mm) f2) → va_S (wr_in (BdW ob oc cI (nI (mm + 1)) f)) s.heap H locs → lv_has ls 4 [(0, .ref ob), (1, .int (nI pt)), (2, .int (nI d)), (3, .int (nI e0))] → wr_W p l e wsX0_takeOut ({ frames := 0, cells := 0, slots := 0, locals := 0 } : Room) s m [.ref ob, .int (nI pt)] below meth c D (BdW ob oc cI (nI (mm + 1)) f) (fun v w9 => v = none ∧ ∃ f9 : Nat → Int32, w9 = BdW ob oc cI (nI mm) f9 ∧ ∀ i, i < mm → ∀ k, k < 6 → f9 (8 * k + i) = gOut P pt i k) H locs (F0 m 20 ls []) from
        loop20 (mm + 1) pt f1 H locs ls (by omega) (by omega) (by exact ⟨Nat.le_refl _, fun z => by rw [if_neg (by omega)]⟩) hP hD hS (lv_sub hl [1, 2, 3, 0] rfl)
      intro k20
      induction k20 with
      | zero => intro e0 f2 H locs ls h1 h2; exact absurd h2 (by omega)
      | succ k20 ih20 =>
        intro e0 f2 H locs ls hle20 hlt20 inv20 hP hD hS hl
        refine lv_iload_n hx hb dX0_takeOut_20 rfl (lv_at hl 3 rfl) ?_
        refine lv_aload_n hx hb dX0_takeOut_21 rfl (lv_at hl 0 rfl) ?_
        refine va_get (D := D) (ci := 0) (v := .int (nI mm)) (C := RX0) (T := TX0) (N := 2) hx hb hts hinX0 hown hK hP 0 rfl rfl 1 (by decide) hw15 (fun _ h9 => h9) rfl dX0_takeOut_22 ?_
        refine rd_icmp_ge_n (a := e0) (b := mm) (tgt := 52) (by omega) (by omega) hx hb dX0_takeOut_25 (by decide) (fun c_25 => ?_) (fun c_25 => ?_)
        · have c_25n := Nat.not_lt.mpr c_25
          refine lv_iinc (v := nI (d + 8)) (lv' := [(2, .int (nI (d + 8))), (0, .ref ob), (1, .int (nI pt)), (3, .int (nI e0))]) hx hb dX0_takeOut_52 hl (k := 2) rfl (nI_add d 8) (by decide) rfl (fun ls hl => ?_)
          refine lv_goto (tgt := 12) hx hb dX0_takeOut_55 (by decide) ?_
          exact ih12 (d + 8) f2 H locs ls (by omega) (by omega) (by exact gOut_outer hm hq hin inv20 (by omega) (by omega)) hP hD hS (lv_sub hl [1, 2, 0] rfl)
        · have c_25n := Nat.not_le.mpr c_25
          refine lv_aload_n hx hb dX0_takeOut_28 rfl (lv_at hl 0 rfl) ?_
          refine va_get (D := D) (ci := 0) (v := .ref oc) (C := RX0) (T := TX0) (N := 2) hx hb hts hinX0 hown hK hP 0 rfl rfl 0 (by decide) hw11 (fun _ h9 => h9) rfl dX0_takeOut_29 ?_
          refine lv_iload_n hx hb dX0_takeOut_32 rfl (lv_at hl 2 rfl) ?_
          refine lv_iload_n hx hb dX0_takeOut_33 rfl (lv_at hl 3 rfl) ?_
          refine lv_iadd hx hb dX0_takeOut_34 ?_
          refine lv_asi (y := nI (d + e0)) (nI_add d e0) ?_
          refine lv_aload_n hx hb dX0_takeOut_35 rfl (lv_at hl 0 rfl) ?_
          refine va_get (D := D) (ci := 0) (v := .ref oc) (C := RX0) (T := TX0) (N := 2) hx hb hts hinX0 hown hK hP 0 rfl rfl 0 (by decide) hw11 (fun _ h9 => h9) rfl dX0_takeOut_36 ?_
          refine lv_iload_n hx hb dX0_takeOut_39 rfl (lv_at hl 2 rfl) ?_
          refine lv_iload_n hx hb dX0_takeOut_40 rfl (lv_at hl 3 rfl) ?_
          refine lv_iadd hx hb dX0_takeOut_41 ?_
          refine lv_asi (y := nI (d + e0)) (nI_add d e0) ?_
          refine lv_iconst (v := 1) hx hb dX0_takeOut_42 (by decide) ?_
          refine lv_iadd hx hb dX0_takeOut_43 ?_
          refine lv_asi (y := nI ((d + e0) + 1)) (nI_add (d + e0) 1) ?_
          refine rd_ald (q0 := 1) (t0 := 0) (j := (d + e0) + 1) (v := f2 ((d + e0) + 1)) hx hb hK hP rfl rfl (rfl) (by omega) (by decide) (rfl) dX0_takeOut_44 ?_
          refine wr_ast (q0 := 1) (t0 := 0) (j := d + e0) hx hb hK hP hD hS rfl rfl (rfl) (by omega) (by decide) dX0_takeOut_45 (fun H locs hP hD hS => ?_)
          obtain ⟨f_45, ef_45⟩ : ∃ zz9 : Nat → Int32, zz9 = upd f2 (d + e0) (f2 ((d + e0) + 1)) := ⟨_, rfl⟩
          rw [← ef_45] at hP hD
          have hP : va_P D vwCl (BdW ob oc cI (nI mm) f_45) H := hP
          have hD : va_D (wr_in (BdW ob oc cI (nI (mm + 1)) f)) (BdW ob oc cI (nI mm) f_45) := hD
          refine lv_iinc (v := nI (e0 + 1)) (lv' := [(3, .int (nI (e0 + 1))), (0, .ref ob), (1, .int (nI pt)), (2, .int (nI d))]) hx hb dX0_takeOut_46 hl (k := 3) rfl (nI_add e0 1) (by decide) rfl (fun ls hl => ?_)
          refine lv_goto (tgt := 20) hx hb dX0_takeOut_49 (by decide) ?_
          exact ih20 (e0 + 1) f_45 H locs ls (by omega) (by omega) (by exact gOut_inner inv20 ef_45) hP hD hS (lv_sub hl [1, 2, 3, 0] rfl)
