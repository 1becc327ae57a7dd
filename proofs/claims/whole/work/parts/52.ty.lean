abbrev TyW (ot yc yt : Nat) (cI : ClassId) (co : Nat → Int32) (ln : Int32) (td : Nat → Int32) (rg : Int32) (pa : Int32) (vl : Int32) : va_W := [(ot, .inr (3, [.ref yc, .int ln, .ref yt, .int rg, .int pa, .int vl])), (yc, .inl (cI, 60, .inl co)), (yt, .inl (cI, 40, .inl td))]
set_option maxHeartbeats 4000000 in
set_option maxRecDepth 100000 in
theorem c_X3_write (l : Launch) (D : va_G) {ot yc yt : Nat} {cI : ClassId} {rg pa vl : Int32} {co td : Nat → Int32} {b : Nat} (hb60 : b < 60) (x : Int32) : wr_M l yX3_write wsX3_write ({ frames := 0, cells := 0, slots := 0, locals := 0 } : Room) D (TyW ot yc yt cI co (nI b) td rg pa vl) [(cI, .int)] [.ref ot, .int x] (fun v w9 => v = none ∧ w9 = TyW ot yc yt cI (upd co b x) (nI (b + 1)) td rg pa vl) := by
  refine wr_of (cc := cX3_write) (maxL := 2) (ret := none) (by decide) rfl (Nat.le_of_ble_eq_true rfl) ?_
  intro p e s m below meth c hx hb hr hml hts hown hlocks hP hK hN hZ hD hS ls hl
  have hown : s.vm.findClass RX3 = some m.cls := hown
  have hl : lv_has ls 2 [(0, .ref ot), (1, .int x)] := hl
  have hinX3 : ∀ w ∈ u_ws RX3 TX3 6, w ∈ wsX3_write := by decide +kernel
  have hw9 := hts (.fieldLink RX3 9 "CornerLabels$Typed" "codes" "[I") (by decide +kernel)
  have hw15 := hts (.fieldLink RX3 15 "CornerLabels$Typed" "length" "I") (by decide +kernel)
  suffices body : ∀ (H : Heap) (locs : List Loc), va_P D vwCl (TyW ot yc yt cI co (nI b) td rg pa vl) H → va_D (wr_in (TyW ot yc yt cI co (nI b) td rg pa vl)) (TyW ot yc yt cI co (nI b) td rg pa vl) → va_S (wr_in (TyW ot yc yt cI co (nI b) td rg pa vl)) s.heap H locs → wr_W p l e wsX3_write ({ frames := 0, cells := 0, slots := 0, locals := 0 } : Room) s m [.ref ot, .int x] below meth c D (TyW ot yc yt cI co (nI b) td rg pa vl) (fun v w9 => v = none ∧ w9 = TyW ot yc yt cI (upd co b x) (nI (b + 1)) td rg pa vl) H locs (F0 m 0 ls []) from body _ _ hP hD hS
  clear hP hD hS
  intro H locs hP hD hS
  refine lv_aload_n hx hb dX3_write_0 rfl (lv_at hl 0 rfl) ?_
  refine va_get (D := D) (ci := 3) (v := .ref yc) (C := RX3) (T := TX3) (N := 6) hx hb hts hinX3 hown hK hP 0 rfl rfl 0 (by decide) hw9 (fun _ h9 => h9) rfl dX3_write_1 ?_
  refine lv_aload_n hx hb dX3_write_4 rfl (lv_at hl 0 rfl) ?_
  refine va_get (D := D) (ci := 3) (v := .int (nI b)) (C := RX3) (T := TX3) (N := 6) hx hb hts hinX3 hown hK hP 0 rfl rfl 1 (by decide) hw15 (fun _ h9 => h9) rfl dX3_write_5 ?_
  refine lv_iload_n hx hb dX3_write_8 rfl (lv_at hl 1 rfl) ?_
  refine wr_ast (q0 := 1) (t0 := 0) (j := b) hx hb hK hP hD hS rfl rfl (rfl) (by omega) (by decide) dX3_write_9 (fun H locs hP hD hS => ?_)
  obtain ⟨co_9, eco_9⟩ : ∃ zz9 : Nat → Int32, zz9 = upd co b x := ⟨_, rfl⟩
  rw [← eco_9] at hP hD
  have hP : va_P D vwCl (TyW ot yc yt cI co_9 (nI b) td rg pa vl) H := hP
  have hD : va_D (wr_in (TyW ot yc yt cI co (nI b) td rg pa vl)) (TyW ot yc yt cI co_9 (nI b) td rg pa vl) := hD
  refine lv_aload_n hx hb dX3_write_10 rfl (lv_at hl 0 rfl) ?_
  refine lv_dup hx hb dX3_write_11 rfl ?_
  refine va_get (D := D) (ci := 3) (v := .int (nI b)) (C := RX3) (T := TX3) (N := 6) hx hb hts hinX3 hown hK hP 0 rfl rfl 1 (by decide) hw15 (fun _ h9 => h9) rfl dX3_write_12 ?_
  refine lv_iconst (v := 1) hx hb dX3_write_15 (by decide) ?_
  refine lv_iadd hx hb dX3_write_16 ?_
  refine lv_asi (y := nI (b + 1)) (nI_add b 1) ?_
  refine va_put (D := D) (ci := 3) (v := .int (nI (b + 1))) (ty := .int) (C := RX3) (T := TX3) (N := 6) hx hb hts hinX3 tyX3 tyX3_ok nmX3 hown hK hP hD hS 0 rfl rfl 1 (by decide) hw15 (fun _ h9 => h9) rfl (by decide +kernel) rfl rfl (Nat.le_of_ble_eq_true rfl) dX3_write_17 (fun H locs hP hD hS => ?_)
  have hP : va_P D vwCl (TyW ot yc yt cI co_9 (nI (b + 1)) td rg pa vl) H := hP
  have hD : va_D (wr_in (TyW ot yc yt cI co (nI b) td rg pa vl)) (TyW ot yc yt cI co_9 (nI (b + 1)) td rg pa vl) := hD
  exact wr_vret hx hb hr hlocks hP hS rfl dX3_write_20 (by exact ⟨rfl, by rw [eco_9]⟩)
set_option maxHeartbeats 4000000 in
set_option maxRecDepth 100000 in
theorem c_X3_code (l : Launch) (D : va_G) {ot yc yt : Nat} {cI : ClassId} {ln rg pa vl : Int32} {co td : Nat → Int32} {i : Nat} (hi : i < 60) : wr_M l yX3_code wsX3_code ({ frames := 0, cells := 0, slots := 0, locals := 0 } : Room) D (TyW ot yc yt cI co ln td rg pa vl) [(cI, .int)] [.ref ot, .int (nI i)] (fun v w9 => v = some (.int (co i)) ∧ w9 = TyW ot yc yt cI co ln td rg pa vl) := by
  refine wr_of (cc := cX3_code) (maxL := 2) (ret := some .int) (by decide) rfl (Nat.le_of_ble_eq_true rfl) ?_
  intro p e s m below meth c hx hb hr hml hts hown hlocks hP hK hN hZ hD hS ls hl
  have hown : s.vm.findClass RX3 = some m.cls := hown
  have hl : lv_has ls 2 [(0, .ref ot), (1, .int (nI i))] := hl
  have hinX3 : ∀ w ∈ u_ws RX3 TX3 6, w ∈ wsX3_code := by decide +kernel
  have hw9 := hts (.fieldLink RX3 9 "CornerLabels$Typed" "codes" "[I") (by decide +kernel)
  suffices body : ∀ (H : Heap) (locs : List Loc), va_P D vwCl (TyW ot yc yt cI co ln td rg pa vl) H → va_D (wr_in (TyW ot yc yt cI co ln td rg pa vl)) (TyW ot yc yt cI co ln td rg pa vl) → va_S (wr_in (TyW ot yc yt cI co ln td rg pa vl)) s.heap H locs → wr_W p l e wsX3_code ({ frames := 0, cells := 0, slots := 0, locals := 0 } : Room) s m [.ref ot, .int (nI i)] below meth c D (TyW ot yc yt cI co ln td rg pa vl) (fun v w9 => v = some (.int (co i)) ∧ w9 = TyW ot yc yt cI co ln td rg pa vl) H locs (F0 m 0 ls []) from body _ _ hP hD hS
  clear hP hD hS
  intro H locs hP hD hS
  refine lv_aload_n hx hb dX3_code_0 rfl (lv_at hl 0 rfl) ?_
  refine va_get (D := D) (ci := 3) (v := .ref yc) (C := RX3) (T := TX3) (N := 6) hx hb hts hinX3 hown hK hP 0 rfl rfl 0 (by decide) hw9 (fun _ h9 => h9) rfl dX3_code_1 ?_
  refine lv_iload_n hx hb dX3_code_4 rfl (lv_at hl 1 rfl) ?_
  refine rd_ald (q0 := 1) (t0 := 0) (j := i) (v := co i) hx hb hK hP rfl rfl (rfl) (by omega) (by decide) (rfl) dX3_code_5 ?_
  exact wr_iret hx hb hr hlocks hP hS rfl dX3_code_6 (by exact ⟨rfl, rfl⟩)
set_option maxHeartbeats 4000000 in
set_option maxRecDepth 100000 in
theorem c_X3_pointsTold (l : Launch) (D : va_G) {ot yc yt : Nat} {cI : ClassId} {ln pa vl : Int32} {co td : Nat → Int32} {r : Nat} : wr_M l yX3_pointsTold wsX3_pointsTold ({ frames := 0, cells := 0, slots := 0, locals := 0 } : Room) D (TyW ot yc yt cI co ln td (nI r) pa vl) [(cI, .int)] [.ref ot] (fun v w9 => v = some (.int (nI (r + 1))) ∧ w9 = TyW ot yc yt cI co ln td (nI r) pa vl) := by
  refine wr_of (cc := cX3_pointsTold) (maxL := 1) (ret := some .int) (by decide) rfl (Nat.le_of_ble_eq_true rfl) ?_
  intro p e s m below meth c hx hb hr hml hts hown hlocks hP hK hN hZ hD hS ls hl
  have hown : s.vm.findClass RX3 = some m.cls := hown
  have hl : lv_has ls 1 [(0, .ref ot)] := hl
  have hinX3 : ∀ w ∈ u_ws RX3 TX3 6, w ∈ wsX3_pointsTold := by decide +kernel
  have hw22 := hts (.fieldLink RX3 22 "CornerLabels$Typed" "reading" "I") (by decide +kernel)
  suffices body : ∀ (H : Heap) (locs : List Loc), va_P D vwCl (TyW ot yc yt cI co ln td (nI r) pa vl) H → va_D (wr_in (TyW ot yc yt cI co ln td (nI r) pa vl)) (TyW ot yc yt cI co ln td (nI r) pa vl) → va_S (wr_in (TyW ot yc yt cI co ln td (nI r) pa vl)) s.heap H locs → wr_W p l e wsX3_pointsTold ({ frames := 0, cells := 0, slots := 0, locals := 0 } : Room) s m [.ref ot] below meth c D (TyW ot yc yt cI co ln td (nI r) pa vl) (fun v w9 => v = some (.int (nI (r + 1))) ∧ w9 = TyW ot yc yt cI co ln td (nI r) pa vl) H locs (F0 m 0 ls []) from body _ _ hP hD hS
  clear hP hD hS
  intro H locs hP hD hS
  refine lv_aload_n hx hb dX3_pointsTold_0 rfl (lv_at hl 0 rfl) ?_
  refine va_get (D := D) (ci := 3) (v := .int (nI r)) (C := RX3) (T := TX3) (N := 6) hx hb hts hinX3 hown hK hP 0 rfl rfl 3 (by decide) hw22 (fun _ h9 => h9) rfl dX3_pointsTold_1 ?_
  refine lv_iconst (v := 1) hx hb dX3_pointsTold_4 (by decide) ?_
  refine lv_iadd hx hb dX3_pointsTold_5 ?_
  refine lv_asi (y := nI (r + 1)) (nI_add r 1) ?_
  exact wr_iret hx hb hr hlocks hP hS rfl dX3_pointsTold_6 (by exact ⟨rfl, rfl⟩)
set_option maxHeartbeats 4000000 in
set_option maxRecDepth 100000 in
theorem c_X3_part (l : Launch) (D : va_G) {ot yc yt : Nat} {cI : ClassId} {ln rg pa vl : Int32} {co td : Nat → Int32} {i k : Nat} (hi : i < 8) (hk : k < 5) : wr_M l yX3_part wsX3_part ({ frames := 0, cells := 0, slots := 0, locals := 0 } : Room) D (TyW ot yc yt cI co ln td rg pa vl) [(cI, .int)] [.ref ot, .int (nI i), .int (nI k)] (fun v w9 => v = some (.int (td (5 * i + k))) ∧ w9 = TyW ot yc yt cI co ln td rg pa vl) := by
  refine wr_of (cc := cX3_part) (maxL := 3) (ret := some .int) (by decide) rfl (Nat.le_of_ble_eq_true rfl) ?_
  intro p e s m below meth c hx hb hr hml hts hown hlocks hP hK hN hZ hD hS ls hl
  have hown : s.vm.findClass RX3 = some m.cls := hown
  have hl : lv_has ls 3 [(0, .ref ot), (1, .int (nI i)), (2, .int (nI k))] := hl
  have hinX3 : ∀ w ∈ u_ws RX3 TX3 6, w ∈ wsX3_part := by decide +kernel
  have hw19 := hts (.fieldLink RX3 19 "CornerLabels$Typed" "told" "[I") (by decide +kernel)
  suffices body : ∀ (H : Heap) (locs : List Loc), va_P D vwCl (TyW ot yc yt cI co ln td rg pa vl) H → va_D (wr_in (TyW ot yc yt cI co ln td rg pa vl)) (TyW ot yc yt cI co ln td rg pa vl) → va_S (wr_in (TyW ot yc yt cI co ln td rg pa vl)) s.heap H locs → wr_W p l e wsX3_part ({ frames := 0, cells := 0, slots := 0, locals := 0 } : Room) s m [.ref ot, .int (nI i), .int (nI k)] below meth c D (TyW ot yc yt cI co ln td rg pa vl) (fun v w9 => v = some (.int (td (5 * i + k))) ∧ w9 = TyW ot yc yt cI co ln td rg pa vl) H locs (F0 m 0 ls []) from body _ _ hP hD hS
  clear hP hD hS
  intro H locs hP hD hS
  refine lv_aload_n hx hb dX3_part_0 rfl (lv_at hl 0 rfl) ?_
  refine va_get (D := D) (ci := 3) (v := .ref yt) (C := RX3) (T := TX3) (N := 6) hx hb hts hinX3 hown hK hP 0 rfl rfl 2 (by decide) hw19 (fun _ h9 => h9) rfl dX3_part_1 ?_
  refine lv_iload_n hx hb dX3_part_4 rfl (lv_at hl 1 rfl) ?_
  refine lv_iconst (v := 5) hx hb dX3_part_5 (by decide) ?_
  refine lv_imul hx hb dX3_part_6 ?_
  refine lv_asi (y := nI (i * 5)) (pk_mul i 5) ?_
  refine lv_iload_n hx hb dX3_part_7 rfl (lv_at hl 2 rfl) ?_
  refine lv_iadd hx hb dX3_part_8 ?_
  refine lv_asi (y := nI ((i * 5) + k)) (nI_add (i * 5) k) ?_
  refine rd_ald (q0 := 2) (t0 := 0) (j := (i * 5) + k) (v := td ((i * 5) + k)) hx hb hK hP rfl rfl (rfl) (by omega) (by decide) (rfl) dX3_part_9 ?_
  exact wr_iret hx hb hr hlocks hP hS rfl dX3_part_10 (by exact ⟨by rw [show i * 5 + k = 5 * i + k by omega], rfl⟩)
set_option maxHeartbeats 4000000 in
set_option maxRecDepth 100000 in
theorem c_X3_endsWithPoint (l : Launch) (D : va_G) {ot yc yt : Nat} {cI : ClassId} {ln rg vl : Int32} {co td : Nat → Int32} {pa r : Nat} (hpa : pa < 5) : wr_M l yX3_endsWithPoint wsX3_endsWithPoint ({ frames := 0, cells := 0, slots := 0, locals := 0 } : Room) D (TyW ot yc yt cI co ln td rg (nI pa) vl) [(cI, .int)] [.ref ot] (fun v w9 => v = some (.int (bI (tyEnd (r, pa, vl, td)))) ∧ w9 = TyW ot yc yt cI co ln td rg (nI pa) vl) := by
  refine wr_of (cc := cX3_endsWithPoint) (maxL := 1) (ret := some .boolean) (by decide) rfl (Nat.le_of_ble_eq_true rfl) ?_
  intro p e s m below meth c hx hb hr hml hts hown hlocks hP hK hN hZ hD hS ls hl
  have hown : s.vm.findClass RX3 = some m.cls := hown
  have hl : lv_has ls 1 [(0, .ref ot)] := hl
  have hinX3 : ∀ w ∈ u_ws RX3 TX3 6, w ∈ wsX3_endsWithPoint := by decide +kernel
  have hw28 := hts (.fieldLink RX3 28 "CornerLabels$Typed" "value" "I") (by decide +kernel)
  have hw25 := hts (.fieldLink RX3 25 "CornerLabels$Typed" "part" "I") (by decide +kernel)
  suffices body : ∀ (H : Heap) (locs : List Loc), va_P D vwCl (TyW ot yc yt cI co ln td rg (nI pa) vl) H → va_D (wr_in (TyW ot yc yt cI co ln td rg (nI pa) vl)) (TyW ot yc yt cI co ln td rg (nI pa) vl) → va_S (wr_in (TyW ot yc yt cI co ln td rg (nI pa) vl)) s.heap H locs → wr_W p l e wsX3_endsWithPoint ({ frames := 0, cells := 0, slots := 0, locals := 0 } : Room) s m [.ref ot] below meth c D (TyW ot yc yt cI co ln td rg (nI pa) vl) (fun v w9 => v = some (.int (bI (tyEnd (r, pa, vl, td)))) ∧ w9 = TyW ot yc yt cI co ln td rg (nI pa) vl) H locs (F0 m 0 ls []) from body _ _ hP hD hS
  clear hP hD hS
  intro H locs hP hD hS
  refine lv_aload_n hx hb dX3_endsWithPoint_0 rfl (lv_at hl 0 rfl) ?_
  refine va_get (D := D) (ci := 3) (v := .int vl) (C := RX3) (T := TX3) (N := 6) hx hb hts hinX3 hown hK hP 0 rfl rfl 5 (by decide) hw28 (fun _ h9 => h9) rfl dX3_endsWithPoint_1 ?_
  refine lv_iconst (v := (-1)) hx hb dX3_endsWithPoint_4 (by decide) ?_
  refine lv_icmp_eq (tgt := 28) hx hb dX3_endsWithPoint_5 (by decide) (fun c_5 => ?_) (fun c_5 => ?_)
  · refine lv_iconst (v := 0) hx hb dX3_endsWithPoint_28 (by decide) ?_
    exact wr_zret (b := false) hx hb hr hlocks hP hS rfl dX3_endsWithPoint_29 (by exact ⟨by simp [tyEnd, bI, c_5], rfl⟩)
  · refine lv_aload_n hx hb dX3_endsWithPoint_8 rfl (lv_at hl 0 rfl) ?_
    refine va_get (D := D) (ci := 3) (v := .int (nI pa)) (C := RX3) (T := TX3) (N := 6) hx hb hts hinX3 hown hK hP 0 rfl rfl 4 (by decide) hw25 (fun _ h9 => h9) rfl dX3_endsWithPoint_9 ?_
    refine lv_iconst (v := 3) hx hb dX3_endsWithPoint_12 (by decide) ?_
    refine rd_icmp_eq_n (a := pa) (b := 3) (tgt := 24) (by omega) (by omega) hx hb dX3_endsWithPoint_13 (by decide) (fun c_13 => ?_) (fun c_13 => ?_)
    · refine lv_iconst (v := 1) hx hb dX3_endsWithPoint_24 (by decide) ?_
      refine lv_goto (tgt := 29) hx hb dX3_endsWithPoint_25 (by decide) ?_
      exact wr_zret (b := true) hx hb hr hlocks hP hS rfl dX3_endsWithPoint_29 (by exact ⟨by simp [tyEnd, bI, c_5, c_13], rfl⟩)
    · refine lv_aload_n hx hb dX3_endsWithPoint_16 rfl (lv_at hl 0 rfl) ?_
      refine va_get (D := D) (ci := 3) (v := .int (nI pa)) (C := RX3) (T := TX3) (N := 6) hx hb hts hinX3 hown hK hP 0 rfl rfl 4 (by decide) hw25 (fun _ h9 => h9) rfl dX3_endsWithPoint_17 ?_
      refine lv_iconst (v := 4) hx hb dX3_endsWithPoint_20 (by decide) ?_
      refine rd_icmp_ne_n (a := pa) (b := 4) (tgt := 28) (by omega) (by omega) hx hb dX3_endsWithPoint_21 (by decide) (fun c_21 => ?_) (fun c_21 => ?_)
      · refine lv_iconst (v := 0) hx hb dX3_endsWithPoint_28 (by decide) ?_
        exact wr_zret (b := false) hx hb hr hlocks hP hS rfl dX3_endsWithPoint_29 (by exact ⟨by simp [tyEnd, bI, c_5, c_13, c_21], rfl⟩)
      · refine lv_iconst (v := 1) hx hb dX3_endsWithPoint_24 (by decide) ?_
        refine lv_goto (tgt := 29) hx hb dX3_endsWithPoint_25 (by decide) ?_
        exact wr_zret (b := true) hx hb hr hlocks hP hS rfl dX3_endsWithPoint_29 (by exact ⟨by simp [tyEnd, bI, c_5, c_13, c_21], rfl⟩)
set_option maxHeartbeats 4000000 in
set_option maxRecDepth 100000 in
theorem c_X3_beginPoint (l : Launch) (D : va_G) {ot yc yt : Nat} {cI : ClassId} {ln rg pa vl : Int32} {co td : Nat → Int32} {q : Nat} (hq : rg + 1 = nI q) (hq8 : q ≤ 8) : wr_M l yX3_beginPoint wsX3_beginPoint ({ frames := 0, cells := 0, slots := 0, locals := 0 } : Room) D (TyW ot yc yt cI co ln td rg pa vl) [(cI, .int)] [.ref ot] (fun v w9 => (q < 8 ∧ v = some (.int (bI true)) ∧ w9 = TyW ot yc yt cI co ln (upd td (q * 5 + 4) 1) (nI q) 0 (-1)) ∨ (q = 8 ∧ v = some (.int (bI false)) ∧ w9 = TyW ot yc yt cI co ln td rg pa vl)) := by
  refine wr_of (cc := cX3_beginPoint) (maxL := 1) (ret := some .boolean) (by decide) rfl (Nat.le_of_ble_eq_true rfl) ?_
  intro p e s m below meth c hx hb hr hml hts hown hlocks hP hK hN hZ hD hS ls hl
  have hown : s.vm.findClass RX3 = some m.cls := hown
  have hl : lv_has ls 1 [(0, .ref ot)] := hl
  have hinX3 : ∀ w ∈ u_ws RX3 TX3 6, w ∈ wsX3_beginPoint := by decide +kernel
  have hw22 := hts (.fieldLink RX3 22 "CornerLabels$Typed" "reading" "I") (by decide +kernel)
  have hw19 := hts (.fieldLink RX3 19 "CornerLabels$Typed" "told" "[I") (by decide +kernel)
  have hw25 := hts (.fieldLink RX3 25 "CornerLabels$Typed" "part" "I") (by decide +kernel)
  have hw28 := hts (.fieldLink RX3 28 "CornerLabels$Typed" "value" "I") (by decide +kernel)
  suffices body : ∀ (H : Heap) (locs : List Loc), va_P D vwCl (TyW ot yc yt cI co ln td rg pa vl) H → va_D (wr_in (TyW ot yc yt cI co ln td rg pa vl)) (TyW ot yc yt cI co ln td rg pa vl) → va_S (wr_in (TyW ot yc yt cI co ln td rg pa vl)) s.heap H locs → wr_W p l e wsX3_beginPoint ({ frames := 0, cells := 0, slots := 0, locals := 0 } : Room) s m [.ref ot] below meth c D (TyW ot yc yt cI co ln td rg pa vl) (fun v w9 => (q < 8 ∧ v = some (.int (bI true)) ∧ w9 = TyW ot yc yt cI co ln (upd td (q * 5 + 4) 1) (nI q) 0 (-1)) ∨ (q = 8 ∧ v = some (.int (bI false)) ∧ w9 = TyW ot yc yt cI co ln td rg pa vl)) H locs (F0 m 0 ls []) from body _ _ hP hD hS
  clear hP hD hS
  intro H locs hP hD hS
  refine lv_aload_n hx hb dX3_beginPoint_0 rfl (lv_at hl 0 rfl) ?_
  refine va_get (D := D) (ci := 3) (v := .int rg) (C := RX3) (T := TX3) (N := 6) hx hb hts hinX3 hown hK hP 0 rfl rfl 3 (by decide) hw22 (fun _ h9 => h9) rfl dX3_beginPoint_1 ?_
  refine lv_iconst (v := 1) hx hb dX3_beginPoint_4 (by decide) ?_
  refine lv_iadd hx hb dX3_beginPoint_5 ?_
  refine lv_asi (y := nI q) (hq) ?_
  refine lv_bipush (v := 8) hx hb dX3_beginPoint_6 (by decide) ?_
  refine rd_icmp_lt_n (a := q) (b := 8) (tgt := 13) (by omega) (by omega) hx hb dX3_beginPoint_8 (by decide) (fun c_8 => ?_) (fun c_8 => ?_)
  · have c_8n := Nat.not_le.mpr c_8
    refine lv_aload_n hx hb dX3_beginPoint_13 rfl (lv_at hl 0 rfl) ?_
    refine lv_dup hx hb dX3_beginPoint_14 rfl ?_
    refine va_get (D := D) (ci := 3) (v := .int rg) (C := RX3) (T := TX3) (N := 6) hx hb hts hinX3 hown hK hP 0 rfl rfl 3 (by decide) hw22 (fun _ h9 => h9) rfl dX3_beginPoint_15 ?_
    refine lv_iconst (v := 1) hx hb dX3_beginPoint_18 (by decide) ?_
    refine lv_iadd hx hb dX3_beginPoint_19 ?_
    refine lv_asi (y := nI q) (hq) ?_
    refine va_put (D := D) (ci := 3) (v := .int (nI q)) (ty := .int) (C := RX3) (T := TX3) (N := 6) hx hb hts hinX3 tyX3 tyX3_ok nmX3 hown hK hP hD hS 0 rfl rfl 3 (by decide) hw22 (fun _ h9 => h9) rfl (by decide +kernel) rfl rfl (Nat.le_of_ble_eq_true rfl) dX3_beginPoint_20 (fun H locs hP hD hS => ?_)
    have hP : va_P D vwCl (TyW ot yc yt cI co ln td (nI q) pa vl) H := hP
    have hD : va_D (wr_in (TyW ot yc yt cI co ln td rg pa vl)) (TyW ot yc yt cI co ln td (nI q) pa vl) := hD
    refine lv_aload_n hx hb dX3_beginPoint_23 rfl (lv_at hl 0 rfl) ?_
    refine va_get (D := D) (ci := 3) (v := .ref yt) (C := RX3) (T := TX3) (N := 6) hx hb hts hinX3 hown hK hP 0 rfl rfl 2 (by decide) hw19 (fun _ h9 => h9) rfl dX3_beginPoint_24 ?_
    refine lv_aload_n hx hb dX3_beginPoint_27 rfl (lv_at hl 0 rfl) ?_
    refine va_get (D := D) (ci := 3) (v := .int (nI q)) (C := RX3) (T := TX3) (N := 6) hx hb hts hinX3 hown hK hP 0 rfl rfl 3 (by decide) hw22 (fun _ h9 => h9) rfl dX3_beginPoint_28 ?_
    refine lv_iconst (v := 5) hx hb dX3_beginPoint_31 (by decide) ?_
    refine lv_imul hx hb dX3_beginPoint_32 ?_
    refine lv_asi (y := nI (q * 5)) (pk_mul q 5) ?_
    refine lv_iconst (v := 4) hx hb dX3_beginPoint_33 (by decide) ?_
    refine lv_iadd hx hb dX3_beginPoint_34 ?_
    refine lv_asi (y := nI ((q * 5) + 4)) (nI_add (q * 5) 4) ?_
    refine lv_iconst (v := 1) hx hb dX3_beginPoint_35 (by decide) ?_
    refine wr_ast (q0 := 2) (t0 := 0) (j := (q * 5) + 4) hx hb hK hP hD hS rfl rfl (rfl) (by omega) (by decide) dX3_beginPoint_36 (fun H locs hP hD hS => ?_)
    obtain ⟨td_36, etd_36⟩ : ∃ zz9 : Nat → Int32, zz9 = upd td ((q * 5) + 4) 1 := ⟨_, rfl⟩
    rw [← etd_36] at hP hD
    have hP : va_P D vwCl (TyW ot yc yt cI co ln td_36 (nI q) pa vl) H := hP
    have hD : va_D (wr_in (TyW ot yc yt cI co ln td rg pa vl)) (TyW ot yc yt cI co ln td_36 (nI q) pa vl) := hD
    refine lv_aload_n hx hb dX3_beginPoint_37 rfl (lv_at hl 0 rfl) ?_
    refine lv_iconst (v := 0) hx hb dX3_beginPoint_38 (by decide) ?_
    refine va_put (D := D) (ci := 3) (v := .int 0) (ty := .int) (C := RX3) (T := TX3) (N := 6) hx hb hts hinX3 tyX3 tyX3_ok nmX3 hown hK hP hD hS 0 rfl rfl 4 (by decide) hw25 (fun _ h9 => h9) rfl (by decide +kernel) rfl rfl (Nat.le_of_ble_eq_true rfl) dX3_beginPoint_39 (fun H locs hP hD hS => ?_)
    have hP : va_P D vwCl (TyW ot yc yt cI co ln td_36 (nI q) 0 vl) H := hP
    have hD : va_D (wr_in (TyW ot yc yt cI co ln td rg pa vl)) (TyW ot yc yt cI co ln td_36 (nI q) 0 vl) := hD
    refine lv_aload_n hx hb dX3_beginPoint_42 rfl (lv_at hl 0 rfl) ?_
    refine lv_iconst (v := (-1)) hx hb dX3_beginPoint_43 (by decide) ?_
    refine va_put (D := D) (ci := 3) (v := .int (-1)) (ty := .int) (C := RX3) (T := TX3) (N := 6) hx hb hts hinX3 tyX3 tyX3_ok nmX3 hown hK hP hD hS 0 rfl rfl 5 (by decide) hw28 (fun _ h9 => h9) rfl (by decide +kernel) rfl rfl (Nat.le_of_ble_eq_true rfl) dX3_beginPoint_44 (fun H locs hP hD hS => ?_)
    have hP : va_P D vwCl (TyW ot yc yt cI co ln td_36 (nI q) 0 (-1)) H := hP
    have hD : va_D (wr_in (TyW ot yc yt cI co ln td rg pa vl)) (TyW ot yc yt cI co ln td_36 (nI q) 0 (-1)) := hD
    refine lv_iconst (v := 1) hx hb dX3_beginPoint_47 (by decide) ?_
    exact wr_zret (b := true) hx hb hr hlocks hP hS rfl dX3_beginPoint_48 (by exact Or.inl ⟨by omega, rfl, by rw [etd_36]⟩)
  · have c_8n := Nat.not_lt.mpr c_8
    refine lv_iconst (v := 0) hx hb dX3_beginPoint_11 (by decide) ?_
    exact wr_zret (b := false) hx hb hr hlocks hP hS rfl dX3_beginPoint_12 (by exact Or.inr ⟨by omega, rfl, rfl⟩)
set_option maxHeartbeats 4000000 in
set_option maxRecDepth 100000 in
theorem c_X3_takeDigit (l : Launch) (D : va_G) {ot yc yt : Nat} {cI : ClassId} {ln vl : Int32} {co td : Nat → Int32} {r pa : Nat} (hr8 : r < 8) (hpa : pa < 5) (x : Int32) : wr_M l yX3_takeDigit wsX3_takeDigit ({ frames := 0, cells := 0, slots := 0, locals := 0 } : Room) D (TyW ot yc yt cI co ln td (nI r) (nI pa) vl) [(cI, .int)] [.ref ot, .int x] (fun v w9 => v = some (.int (bI (tyDg x (r, pa, vl, td)).1)) ∧ w9 = TyW ot yc yt cI co ln ((tyDg x (r, pa, vl, td)).2.2.2.2) (nI ((tyDg x (r, pa, vl, td)).2.1)) (nI ((tyDg x (r, pa, vl, td)).2.2.1)) ((tyDg x (r, pa, vl, td)).2.2.2.1)) := by
  refine wr_of (cc := cX3_takeDigit) (maxL := 3) (ret := some .boolean) (by decide) rfl (Nat.le_of_ble_eq_true rfl) ?_
  intro p e s m below meth c hx hb hr hml hts hown hlocks hP hK hN hZ hD hS ls hl
  have hown : s.vm.findClass RX3 = some m.cls := hown
  have hl : lv_has ls 3 [(0, .ref ot), (1, .int x)] := hl
  obtain ⟨⟨tl9, hZl, hTl⟩, tm9, hZm, hTm⟩ := hZ
  have hinX3 : ∀ w ∈ u_ws RX3 TX3 6, w ∈ wsX3_takeDigit := by decide +kernel
  have hw28 := hts (.fieldLink RX3 28 "CornerLabels$Typed" "value" "I") (by decide +kernel)
  have hw46 := hts (.fieldLink RX3 46 "CornerLabels$Typed" "LEAST" "[I") (by decide +kernel)
  have hw25 := hts (.fieldLink RX3 25 "CornerLabels$Typed" "part" "I") (by decide +kernel)
  have hw49 := hts (.fieldLink RX3 49 "CornerLabels$Typed" "MOST" "[I") (by decide +kernel)
  have hw19 := hts (.fieldLink RX3 19 "CornerLabels$Typed" "told" "[I") (by decide +kernel)
  have hw22 := hts (.fieldLink RX3 22 "CornerLabels$Typed" "reading" "I") (by decide +kernel)
  suffices body : ∀ (H : Heap) (locs : List Loc), va_P D vwCl (TyW ot yc yt cI co ln td (nI r) (nI pa) vl) H → va_D (wr_in (TyW ot yc yt cI co ln td (nI r) (nI pa) vl)) (TyW ot yc yt cI co ln td (nI r) (nI pa) vl) → va_S (wr_in (TyW ot yc yt cI co ln td (nI r) (nI pa) vl)) s.heap H locs → wr_W p l e wsX3_takeDigit ({ frames := 0, cells := 0, slots := 0, locals := 0 } : Room) s m [.ref ot, .int x] below meth c D (TyW ot yc yt cI co ln td (nI r) (nI pa) vl) (fun v w9 => v = some (.int (bI (tyDg x (r, pa, vl, td)).1)) ∧ w9 = TyW ot yc yt cI co ln ((tyDg x (r, pa, vl, td)).2.2.2.2) (nI ((tyDg x (r, pa, vl, td)).2.1)) (nI ((tyDg x (r, pa, vl, td)).2.2.1)) ((tyDg x (r, pa, vl, td)).2.2.2.1)) H locs (F0 m 0 ls []) from body _ _ hP hD hS
  clear hP hD hS
  intro H locs hP hD hS
  refine lv_aload_n hx hb dX3_takeDigit_0 rfl (lv_at hl 0 rfl) ?_
  refine va_get (D := D) (ci := 3) (v := .int vl) (C := RX3) (T := TX3) (N := 6) hx hb hts hinX3 hown hK hP 0 rfl rfl 5 (by decide) hw28 (fun _ h9 => h9) rfl dX3_takeDigit_1 ?_
  refine lv_if_ne (tgt := 9) hx hb dX3_takeDigit_4 (by decide) (fun c_4 => ?_) (fun c_4 => ?_)
  · refine lv_aload_n hx hb dX3_takeDigit_9 rfl (lv_at hl 0 rfl) ?_
    refine va_get (D := D) (ci := 3) (v := .int vl) (C := RX3) (T := TX3) (N := 6) hx hb hts hinX3 hown hK hP 0 rfl rfl 5 (by decide) hw28 (fun _ h9 => h9) rfl dX3_takeDigit_10 ?_
    refine lv_iconst (v := (-1)) hx hb dX3_takeDigit_13 (by decide) ?_
    refine lv_icmp_ne (tgt := 21) hx hb dX3_takeDigit_14 (by decide) (fun c_14 => ?_) (fun c_14 => ?_)
    · refine lv_aload_n hx hb dX3_takeDigit_21 rfl (lv_at hl 0 rfl) ?_
      refine va_get (D := D) (ci := 3) (v := .int vl) (C := RX3) (T := TX3) (N := 6) hx hb hts hinX3 hown hK hP 0 rfl rfl 5 (by decide) hw28 (fun _ h9 => h9) rfl dX3_takeDigit_22 ?_
      refine lv_bipush (v := 10) hx hb dX3_takeDigit_25 (by decide) ?_
      refine lv_imul hx hb dX3_takeDigit_27 ?_
      refine lv_iload_n hx hb dX3_takeDigit_28 rfl (lv_at hl 1 rfl) ?_
      refine lv_iadd hx hb dX3_takeDigit_29 ?_
      refine lv_istore_n (lv' := [(2, .int ((vl * 10) + x)), (0, .ref ot), (1, .int x)]) hx hb dX3_takeDigit_30 rfl hl (by decide) rfl (fun ls hl => ?_)
      refine lv_iload_n hx hb dX3_takeDigit_31 rfl (lv_at hl 0 rfl) ?_
      refine va_gets hx hb hZl hS hown hw46 (fun _ h9 => h9) dX3_takeDigit_32 ?_
      refine lv_aload_n hx hb dX3_takeDigit_35 rfl (lv_at hl 1 rfl) ?_
      refine va_get (D := D) (ci := 3) (v := .int (nI pa)) (C := RX3) (T := TX3) (N := 6) hx hb hts hinX3 hown hK hP 0 rfl rfl 4 (by decide) hw25 (fun _ h9 => h9) rfl dX3_takeDigit_36 ?_
      refine va_ti hx hb hTl hS (vp_in_nI (show pa < 5 by omega) (by decide)) (v := .int (tyLeast pa)) (by rw [nI_clamp (by omega)]) dX3_takeDigit_39 ?_
      refine lv_icmp_lt (tgt := 55) hx hb dX3_takeDigit_40 (by decide) (fun c_40 => ?_) (fun c_40 => ?_)
      · have c_40n := Int32.not_le.mpr c_40
        refine lv_iconst (v := 0) hx hb dX3_takeDigit_55 (by decide) ?_
        exact wr_zret (b := false) hx hb hr hlocks hP hS rfl dX3_takeDigit_56 (by have hz : tyDg x (r, pa, vl, td) = (false, r, pa, vl, td) := (by simp [tyDg, tyLg, c_4, c_14, c_40, c_40n]); rw [hz]; exact ⟨rfl, rfl⟩)
      · have c_40n := Int32.not_lt.mp c_40
        refine lv_iload_n hx hb dX3_takeDigit_43 rfl (lv_at hl 0 rfl) ?_
        refine va_gets hx hb hZm hS hown hw49 (fun _ h9 => h9) dX3_takeDigit_44 ?_
        refine lv_aload_n hx hb dX3_takeDigit_47 rfl (lv_at hl 1 rfl) ?_
        refine va_get (D := D) (ci := 3) (v := .int (nI pa)) (C := RX3) (T := TX3) (N := 6) hx hb hts hinX3 hown hK hP 0 rfl rfl 4 (by decide) hw25 (fun _ h9 => h9) rfl dX3_takeDigit_48 ?_
        refine va_ti hx hb hTm hS (vp_in_nI (show pa < 5 by omega) (by decide)) (v := .int (tyMost pa)) (by rw [nI_clamp (by omega)]) dX3_takeDigit_51 ?_
        refine lv_icmp_le (tgt := 57) hx hb dX3_takeDigit_52 (by decide) (fun c_52 => ?_) (fun c_52 => ?_)
        · have c_52n := Int32.not_lt.mpr c_52
          refine lv_aload_n hx hb dX3_takeDigit_57 rfl (lv_at hl 1 rfl) ?_
          refine lv_iload_n hx hb dX3_takeDigit_58 rfl (lv_at hl 0 rfl) ?_
          refine va_put (D := D) (ci := 3) (v := .int ((vl * 10) + x)) (ty := .int) (C := RX3) (T := TX3) (N := 6) hx hb hts hinX3 tyX3 tyX3_ok nmX3 hown hK hP hD hS 0 rfl rfl 5 (by decide) hw28 (fun _ h9 => h9) rfl (by decide +kernel) rfl rfl (Nat.le_of_ble_eq_true rfl) dX3_takeDigit_59 (fun H locs hP hD hS => ?_)
          have hP : va_P D vwCl (TyW ot yc yt cI co ln td (nI r) (nI pa) ((vl * 10) + x)) H := hP
          have hD : va_D (wr_in (TyW ot yc yt cI co ln td (nI r) (nI pa) vl)) (TyW ot yc yt cI co ln td (nI r) (nI pa) ((vl * 10) + x)) := hD
          refine lv_aload_n hx hb dX3_takeDigit_62 rfl (lv_at hl 1 rfl) ?_
          refine va_get (D := D) (ci := 3) (v := .ref yt) (C := RX3) (T := TX3) (N := 6) hx hb hts hinX3 hown hK hP 0 rfl rfl 2 (by decide) hw19 (fun _ h9 => h9) rfl dX3_takeDigit_63 ?_
          refine lv_aload_n hx hb dX3_takeDigit_66 rfl (lv_at hl 1 rfl) ?_
          refine va_get (D := D) (ci := 3) (v := .int (nI r)) (C := RX3) (T := TX3) (N := 6) hx hb hts hinX3 hown hK hP 0 rfl rfl 3 (by decide) hw22 (fun _ h9 => h9) rfl dX3_takeDigit_67 ?_
          refine lv_iconst (v := 5) hx hb dX3_takeDigit_70 (by decide) ?_
          refine lv_imul hx hb dX3_takeDigit_71 ?_
          refine lv_asi (y := nI (r * 5)) (pk_mul r 5) ?_
          refine lv_aload_n hx hb dX3_takeDigit_72 rfl (lv_at hl 1 rfl) ?_
          refine va_get (D := D) (ci := 3) (v := .int (nI pa)) (C := RX3) (T := TX3) (N := 6) hx hb hts hinX3 hown hK hP 0 rfl rfl 4 (by decide) hw25 (fun _ h9 => h9) rfl dX3_takeDigit_73 ?_
          refine lv_iadd hx hb dX3_takeDigit_76 ?_
          refine lv_asi (y := nI ((r * 5) + pa)) (nI_add (r * 5) pa) ?_
          refine lv_aload_n hx hb dX3_takeDigit_77 rfl (lv_at hl 1 rfl) ?_
          refine va_get (D := D) (ci := 3) (v := .int ((vl * 10) + x)) (C := RX3) (T := TX3) (N := 6) hx hb hts hinX3 hown hK hP 0 rfl rfl 5 (by decide) hw28 (fun _ h9 => h9) rfl dX3_takeDigit_78 ?_
          refine wr_ast (q0 := 2) (t0 := 0) (j := (r * 5) + pa) hx hb hK hP hD hS rfl rfl (rfl) (by omega) (by decide) dX3_takeDigit_81 (fun H locs hP hD hS => ?_)
          obtain ⟨td_81, etd_81⟩ : ∃ zz9 : Nat → Int32, zz9 = upd td ((r * 5) + pa) ((vl * 10) + x) := ⟨_, rfl⟩
          rw [← etd_81] at hP hD
          have hP : va_P D vwCl (TyW ot yc yt cI co ln td_81 (nI r) (nI pa) ((vl * 10) + x)) H := hP
          have hD : va_D (wr_in (TyW ot yc yt cI co ln td (nI r) (nI pa) vl)) (TyW ot yc yt cI co ln td_81 (nI r) (nI pa) ((vl * 10) + x)) := hD
          refine lv_iconst (v := 1) hx hb dX3_takeDigit_82 (by decide) ?_
          exact wr_zret (b := true) hx hb hr hlocks hP hS rfl dX3_takeDigit_83 (by have hz : tyDg x (r, pa, vl, td) = (true, r, pa, (vl * 10) + x, upd td (r * 5 + pa) ((vl * 10) + x)) := (by simp [tyDg, tyLg, c_4, c_14, c_40, c_40n, c_52, c_52n]); rw [hz]; exact ⟨rfl, by rw [etd_81]⟩)
        · have c_52n := Int32.not_le.mp c_52
          refine lv_iconst (v := 0) hx hb dX3_takeDigit_55 (by decide) ?_
          exact wr_zret (b := false) hx hb hr hlocks hP hS rfl dX3_takeDigit_56 (by have hz : tyDg x (r, pa, vl, td) = (false, r, pa, vl, td) := (by simp [tyDg, tyLg, c_4, c_14, c_40, c_40n, c_52, c_52n]); rw [hz]; exact ⟨rfl, rfl⟩)
    · refine lv_iload_n hx hb dX3_takeDigit_17 rfl (lv_at hl 1 rfl) ?_
      refine lv_goto (tgt := 30) hx hb dX3_takeDigit_18 (by decide) ?_
      refine lv_istore_n (lv' := [(2, .int x), (0, .ref ot), (1, .int x)]) hx hb dX3_takeDigit_30 rfl hl (by decide) rfl (fun ls hl => ?_)
      refine lv_iload_n hx hb dX3_takeDigit_31 rfl (lv_at hl 0 rfl) ?_
      refine va_gets hx hb hZl hS hown hw46 (fun _ h9 => h9) dX3_takeDigit_32 ?_
      refine lv_aload_n hx hb dX3_takeDigit_35 rfl (lv_at hl 1 rfl) ?_
      refine va_get (D := D) (ci := 3) (v := .int (nI pa)) (C := RX3) (T := TX3) (N := 6) hx hb hts hinX3 hown hK hP 0 rfl rfl 4 (by decide) hw25 (fun _ h9 => h9) rfl dX3_takeDigit_36 ?_
      refine va_ti hx hb hTl hS (vp_in_nI (show pa < 5 by omega) (by decide)) (v := .int (tyLeast pa)) (by rw [nI_clamp (by omega)]) dX3_takeDigit_39 ?_
      refine lv_icmp_lt (tgt := 55) hx hb dX3_takeDigit_40 (by decide) (fun c_40 => ?_) (fun c_40 => ?_)
      · have c_40n := Int32.not_le.mpr c_40
        refine lv_iconst (v := 0) hx hb dX3_takeDigit_55 (by decide) ?_
        exact wr_zret (b := false) hx hb hr hlocks hP hS rfl dX3_takeDigit_56 (by have hz : tyDg x (r, pa, vl, td) = (false, r, pa, vl, td) := (by simp [tyDg, tyLg, c_4, c_14, c_40, c_40n]); rw [hz]; exact ⟨rfl, rfl⟩)
      · have c_40n := Int32.not_lt.mp c_40
        refine lv_iload_n hx hb dX3_takeDigit_43 rfl (lv_at hl 0 rfl) ?_
        refine va_gets hx hb hZm hS hown hw49 (fun _ h9 => h9) dX3_takeDigit_44 ?_
        refine lv_aload_n hx hb dX3_takeDigit_47 rfl (lv_at hl 1 rfl) ?_
        refine va_get (D := D) (ci := 3) (v := .int (nI pa)) (C := RX3) (T := TX3) (N := 6) hx hb hts hinX3 hown hK hP 0 rfl rfl 4 (by decide) hw25 (fun _ h9 => h9) rfl dX3_takeDigit_48 ?_
        refine va_ti hx hb hTm hS (vp_in_nI (show pa < 5 by omega) (by decide)) (v := .int (tyMost pa)) (by rw [nI_clamp (by omega)]) dX3_takeDigit_51 ?_
        refine lv_icmp_le (tgt := 57) hx hb dX3_takeDigit_52 (by decide) (fun c_52 => ?_) (fun c_52 => ?_)
        · have c_52n := Int32.not_lt.mpr c_52
          refine lv_aload_n hx hb dX3_takeDigit_57 rfl (lv_at hl 1 rfl) ?_
          refine lv_iload_n hx hb dX3_takeDigit_58 rfl (lv_at hl 0 rfl) ?_
          refine va_put (D := D) (ci := 3) (v := .int x) (ty := .int) (C := RX3) (T := TX3) (N := 6) hx hb hts hinX3 tyX3 tyX3_ok nmX3 hown hK hP hD hS 0 rfl rfl 5 (by decide) hw28 (fun _ h9 => h9) rfl (by decide +kernel) rfl rfl (Nat.le_of_ble_eq_true rfl) dX3_takeDigit_59 (fun H locs hP hD hS => ?_)
          have hP : va_P D vwCl (TyW ot yc yt cI co ln td (nI r) (nI pa) x) H := hP
          have hD : va_D (wr_in (TyW ot yc yt cI co ln td (nI r) (nI pa) vl)) (TyW ot yc yt cI co ln td (nI r) (nI pa) x) := hD
          refine lv_aload_n hx hb dX3_takeDigit_62 rfl (lv_at hl 1 rfl) ?_
          refine va_get (D := D) (ci := 3) (v := .ref yt) (C := RX3) (T := TX3) (N := 6) hx hb hts hinX3 hown hK hP 0 rfl rfl 2 (by decide) hw19 (fun _ h9 => h9) rfl dX3_takeDigit_63 ?_
          refine lv_aload_n hx hb dX3_takeDigit_66 rfl (lv_at hl 1 rfl) ?_
          refine va_get (D := D) (ci := 3) (v := .int (nI r)) (C := RX3) (T := TX3) (N := 6) hx hb hts hinX3 hown hK hP 0 rfl rfl 3 (by decide) hw22 (fun _ h9 => h9) rfl dX3_takeDigit_67 ?_
          refine lv_iconst (v := 5) hx hb dX3_takeDigit_70 (by decide) ?_
          refine lv_imul hx hb dX3_takeDigit_71 ?_
          refine lv_asi (y := nI (r * 5)) (pk_mul r 5) ?_
          refine lv_aload_n hx hb dX3_takeDigit_72 rfl (lv_at hl 1 rfl) ?_
          refine va_get (D := D) (ci := 3) (v := .int (nI pa)) (C := RX3) (T := TX3) (N := 6) hx hb hts hinX3 hown hK hP 0 rfl rfl 4 (by decide) hw25 (fun _ h9 => h9) rfl dX3_takeDigit_73 ?_
          refine lv_iadd hx hb dX3_takeDigit_76 ?_
          refine lv_asi (y := nI ((r * 5) + pa)) (nI_add (r * 5) pa) ?_
          refine lv_aload_n hx hb dX3_takeDigit_77 rfl (lv_at hl 1 rfl) ?_
          refine va_get (D := D) (ci := 3) (v := .int x) (C := RX3) (T := TX3) (N := 6) hx hb hts hinX3 hown hK hP 0 rfl rfl 5 (by decide) hw28 (fun _ h9 => h9) rfl dX3_takeDigit_78 ?_
          refine wr_ast (q0 := 2) (t0 := 0) (j := (r * 5) + pa) hx hb hK hP hD hS rfl rfl (rfl) (by omega) (by decide) dX3_takeDigit_81 (fun H locs hP hD hS => ?_)
          obtain ⟨td_81, etd_81⟩ : ∃ zz9 : Nat → Int32, zz9 = upd td ((r * 5) + pa) x := ⟨_, rfl⟩
          rw [← etd_81] at hP hD
          have hP : va_P D vwCl (TyW ot yc yt cI co ln td_81 (nI r) (nI pa) x) H := hP
          have hD : va_D (wr_in (TyW ot yc yt cI co ln td (nI r) (nI pa) vl)) (TyW ot yc yt cI co ln td_81 (nI r) (nI pa) x) := hD
          refine lv_iconst (v := 1) hx hb dX3_takeDigit_82 (by decide) ?_
          exact wr_zret (b := true) hx hb hr hlocks hP hS rfl dX3_takeDigit_83 (by have hz : tyDg x (r, pa, vl, td) = (true, r, pa, x, upd td (r * 5 + pa) (x)) := (by simp [tyDg, tyLg, c_4, c_14, c_40, c_40n, c_52, c_52n]); rw [hz]; exact ⟨rfl, by rw [etd_81]⟩)
        · have c_52n := Int32.not_le.mp c_52
          refine lv_iconst (v := 0) hx hb dX3_takeDigit_55 (by decide) ?_
          exact wr_zret (b := false) hx hb hr hlocks hP hS rfl dX3_takeDigit_56 (by have hz : tyDg x (r, pa, vl, td) = (false, r, pa, vl, td) := (by simp [tyDg, tyLg, c_4, c_14, c_40, c_40n, c_52, c_52n]); rw [hz]; exact ⟨rfl, rfl⟩)
  · refine lv_iconst (v := 0) hx hb dX3_takeDigit_7 (by decide) ?_
    exact wr_zret (b := false) hx hb hr hlocks hP hS rfl dX3_takeDigit_8 (by have hz : tyDg x (r, pa, vl, td) = (false, r, pa, vl, td) := (by simp [tyDg, tyLg, c_4]); rw [hz]; exact ⟨rfl, rfl⟩)
set_option maxHeartbeats 4000000 in
set_option maxRecDepth 100000 in
theorem c_X3_partAfter (l : Launch) (D : va_G) {ot yc yt : Nat} {cI : ClassId} {ln rg pa vl : Int32} {co td : Nat → Int32} {pk : Nat} (hpk : pk < 5) (x : Int32) : wr_M l yX3_partAfter wsX3_partAfter ({ frames := 0, cells := 0, slots := 0, locals := 0 } : Room) D (TyW ot yc yt cI co ln td rg pa vl) [(cI, .int)] [.int (nI pk), .int x] (fun v w9 => v = some (.int (tyNx pk x)) ∧ w9 = TyW ot yc yt cI co ln td rg pa vl) := by
  refine wr_of (cc := cX3_partAfter) (maxL := 2) (ret := some .int) (by decide) rfl (Nat.le_of_ble_eq_true rfl) ?_
  intro p e s m below meth c hx hb hr hml hts hown hlocks hP hK hN hZ hD hS ls hl
  have hown : s.vm.findClass RX3 = some m.cls := hown
  have hl : lv_has ls 2 [(0, .int (nI pk)), (1, .int x)] := hl
  suffices body : ∀ (H : Heap) (locs : List Loc), va_P D vwCl (TyW ot yc yt cI co ln td rg pa vl) H → va_D (wr_in (TyW ot yc yt cI co ln td rg pa vl)) (TyW ot yc yt cI co ln td rg pa vl) → va_S (wr_in (TyW ot yc yt cI co ln td rg pa vl)) s.heap H locs → wr_W p l e wsX3_partAfter ({ frames := 0, cells := 0, slots := 0, locals := 0 } : Room) s m [.int (nI pk), .int x] below meth c D (TyW ot yc yt cI co ln td rg pa vl) (fun v w9 => v = some (.int (tyNx pk x)) ∧ w9 = TyW ot yc yt cI co ln td rg pa vl) H locs (F0 m 0 ls []) from body _ _ hP hD hS
  clear hP hD hS
  intro H locs hP hD hS
  refine lv_iload_n hx hb dX3_partAfter_0 rfl (lv_at hl 0 rfl) ?_
  rcases (show pk = 0 ∨ pk = 1 ∨ pk = 2 ∨ pk = 3 ∨ pk = 4 by omega) with rfl | rfl | rfl | rfl | rfl
  · refine lv_tableIn (tgt := 32) hx hb dX3_partAfter_1 (by decide) (by decide) rfl (by decide) ?_
    refine lv_iload_n hx hb dX3_partAfter_32 rfl (lv_at hl 1 rfl) ?_
    refine lv_bipush (v := 44) hx hb dX3_partAfter_33 (by decide) ?_
    refine lv_icmp_ne (tgt := 42) hx hb dX3_partAfter_35 (by decide) (fun c_35 => ?_) (fun c_35 => ?_)
    · refine lv_iconst (v := (-1)) hx hb dX3_partAfter_42 (by decide) ?_
      exact wr_iret hx hb hr hlocks hP hS rfl dX3_partAfter_43 (by exact ⟨by simp [tyNx, c_35], rfl⟩)
    · refine lv_iconst (v := 1) hx hb dX3_partAfter_38 (by decide) ?_
      refine lv_goto (tgt := 43) hx hb dX3_partAfter_39 (by decide) ?_
      exact wr_iret hx hb hr hlocks hP hS rfl dX3_partAfter_43 (by exact ⟨by simp [tyNx, c_35], rfl⟩)
  · refine lv_tableIn (tgt := 44) hx hb dX3_partAfter_1 (by decide) (by decide) rfl (by decide) ?_
    refine lv_iload_n hx hb dX3_partAfter_44 rfl (lv_at hl 1 rfl) ?_
    refine lv_bipush (v := 58) hx hb dX3_partAfter_45 (by decide) ?_
    refine lv_icmp_ne (tgt := 54) hx hb dX3_partAfter_47 (by decide) (fun c_47 => ?_) (fun c_47 => ?_)
    · refine lv_iconst (v := (-1)) hx hb dX3_partAfter_54 (by decide) ?_
      exact wr_iret hx hb hr hlocks hP hS rfl dX3_partAfter_55 (by exact ⟨by simp [tyNx, c_47], rfl⟩)
    · refine lv_iconst (v := 2) hx hb dX3_partAfter_50 (by decide) ?_
      refine lv_goto (tgt := 55) hx hb dX3_partAfter_51 (by decide) ?_
      exact wr_iret hx hb hr hlocks hP hS rfl dX3_partAfter_55 (by exact ⟨by simp [tyNx, c_47], rfl⟩)
  · refine lv_tableIn (tgt := 56) hx hb dX3_partAfter_1 (by decide) (by decide) rfl (by decide) ?_
    refine lv_iload_n hx hb dX3_partAfter_56 rfl (lv_at hl 1 rfl) ?_
    refine lv_bipush (v := 120) hx hb dX3_partAfter_57 (by decide) ?_
    refine lv_icmp_ne (tgt := 66) hx hb dX3_partAfter_59 (by decide) (fun c_59 => ?_) (fun c_59 => ?_)
    · refine lv_iconst (v := (-1)) hx hb dX3_partAfter_66 (by decide) ?_
      exact wr_iret hx hb hr hlocks hP hS rfl dX3_partAfter_67 (by exact ⟨by simp [tyNx, c_59], rfl⟩)
    · refine lv_iconst (v := 3) hx hb dX3_partAfter_62 (by decide) ?_
      refine lv_goto (tgt := 67) hx hb dX3_partAfter_63 (by decide) ?_
      exact wr_iret hx hb hr hlocks hP hS rfl dX3_partAfter_67 (by exact ⟨by simp [tyNx, c_59], rfl⟩)
  · refine lv_tableIn (tgt := 68) hx hb dX3_partAfter_1 (by decide) (by decide) rfl (by decide) ?_
    refine lv_iload_n hx hb dX3_partAfter_68 rfl (lv_at hl 1 rfl) ?_
    refine lv_bipush (v := 42) hx hb dX3_partAfter_69 (by decide) ?_
    refine lv_icmp_ne (tgt := 78) hx hb dX3_partAfter_71 (by decide) (fun c_71 => ?_) (fun c_71 => ?_)
    · refine lv_iload_n hx hb dX3_partAfter_78 rfl (lv_at hl 1 rfl) ?_
      refine lv_bipush (v := 59) hx hb dX3_partAfter_79 (by decide) ?_
      refine lv_icmp_ne (tgt := 88) hx hb dX3_partAfter_81 (by decide) (fun c_81 => ?_) (fun c_81 => ?_)
      · refine lv_iconst (v := (-1)) hx hb dX3_partAfter_88 (by decide) ?_
        exact wr_iret hx hb hr hlocks hP hS rfl dX3_partAfter_89 (by exact ⟨by simp [tyNx, c_71, c_81], rfl⟩)
      · refine lv_iconst (v := 0) hx hb dX3_partAfter_84 (by decide) ?_
        refine lv_goto (tgt := 89) hx hb dX3_partAfter_85 (by decide) ?_
        exact wr_iret hx hb hr hlocks hP hS rfl dX3_partAfter_89 (by exact ⟨by simp [tyNx, c_71, c_81], rfl⟩)
    · refine lv_iconst (v := 4) hx hb dX3_partAfter_74 (by decide) ?_
      refine lv_goto (tgt := 89) hx hb dX3_partAfter_75 (by decide) ?_
      exact wr_iret hx hb hr hlocks hP hS rfl dX3_partAfter_89 (by exact ⟨by simp [tyNx, c_71], rfl⟩)
  · refine lv_tableOut (tgt := 90) hx hb dX3_partAfter_1 (by decide) (by decide) ?_
    refine lv_iload_n hx hb dX3_partAfter_90 rfl (lv_at hl 1 rfl) ?_
    refine lv_bipush (v := 59) hx hb dX3_partAfter_91 (by decide) ?_
    refine lv_icmp_ne (tgt := 100) hx hb dX3_partAfter_93 (by decide) (fun c_93 => ?_) (fun c_93 => ?_)
    · refine lv_iconst (v := (-1)) hx hb dX3_partAfter_100 (by decide) ?_
      exact wr_iret hx hb hr hlocks hP hS rfl dX3_partAfter_101 (by exact ⟨by simp [tyNx, c_93], rfl⟩)
    · refine lv_iconst (v := 0) hx hb dX3_partAfter_96 (by decide) ?_
      refine lv_goto (tgt := 101) hx hb dX3_partAfter_97 (by decide) ?_
      exact wr_iret hx hb hr hlocks hP hS rfl dX3_partAfter_101 (by exact ⟨by simp [tyNx, c_93], rfl⟩)
theorem c_X3_begin (l : Launch) (D : va_G) {ot yc yt : Nat} {cI : ClassId} {ln vl : Int32} {co td : Nat → Int32} {r pa : Nat} (hr8 : r < 8) : wr_M l yX3_beginPoint wsX3_beginPoint ({ frames := 0, cells := 0, slots := 0, locals := 0 } : Room) D (TyW ot yc yt cI co ln td (nI r) (nI pa) vl) [(cI, .int)] [.ref ot] (fun v w9 => v = some (.int (bI (tyBg (r, pa, vl, td)).1)) ∧ w9 = TyW ot yc yt cI co ln ((tyBg (r, pa, vl, td)).2.2.2.2) (nI ((tyBg (r, pa, vl, td)).2.1)) (nI ((tyBg (r, pa, vl, td)).2.2.1)) ((tyBg (r, pa, vl, td)).2.2.2.1)) := by
  refine wr_mono (c_X3_beginPoint l D (q := r + 1) (nI_add r 1) (by omega)) (fun v w9 h => ?_)
  rcases h with ⟨h1, h2, h3⟩ | ⟨h1, h2, h3⟩
  · have hz : tyBg (r, pa, vl, td) = (true, r + 1, 0, -1, upd td ((r + 1) * 5 + 4) 1) := by simp [tyBg, h1]
    rw [hz]; exact ⟨h2, h3⟩
  · have hz : tyBg (r, pa, vl, td) = (false, r, pa, vl, td) := by simp [tyBg, h1]
    rw [hz]; exact ⟨h2, h3⟩
set_option maxHeartbeats 4000000 in
set_option maxRecDepth 100000 in
theorem c_X3_take (l : Launch) (D : va_G) {ot yc yt : Nat} {cI : ClassId} {ln vl : Int32} {co td : Nat → Int32} {r pa : Nat} (hr8 : r < 8) (hpa : pa < 5) (x : Int32) : wr_M l yX3_take wsX3_take ({ frames := 1, cells := 0, slots := 0, locals := 22 } : Room) D (TyW ot yc yt cI co ln td (nI r) (nI pa) vl) [(cI, .int)] [.ref ot, .int x] (fun v w9 => v = some (.int (bI (tkS x (r, pa, vl, td)).1)) ∧ w9 = TyW ot yc yt cI co ln ((tkS x (r, pa, vl, td)).2.2.2.2) (nI ((tkS x (r, pa, vl, td)).2.1)) (nI ((tkS x (r, pa, vl, td)).2.2.1)) ((tkS x (r, pa, vl, td)).2.2.2.1)) := by
  refine wr_of (cc := cX3_take) (maxL := 3) (ret := some .boolean) (by decide) rfl (Nat.le_of_ble_eq_true rfl) ?_
  intro p e s m below meth c hx hb hr hml hts hown hlocks hP hK hN hZ hD hS ls hl
  have hown : s.vm.findClass RX3 = some m.cls := hown
  have hl : lv_has ls 3 [(0, .ref ot), (1, .int x)] := hl
  have hinX3 : ∀ w ∈ u_ws RX3 TX3 6, w ∈ wsX3_take := by decide +kernel
  have hw28 := hts (.fieldLink RX3 28 "CornerLabels$Typed" "value" "I") (by decide +kernel)
  have hw25 := hts (.fieldLink RX3 25 "CornerLabels$Typed" "part" "I") (by decide +kernel)
  suffices body : ∀ (H : Heap) (locs : List Loc), va_P D vwCl (TyW ot yc yt cI co ln td (nI r) (nI pa) vl) H → va_D (wr_in (TyW ot yc yt cI co ln td (nI r) (nI pa) vl)) (TyW ot yc yt cI co ln td (nI r) (nI pa) vl) → va_S (wr_in (TyW ot yc yt cI co ln td (nI r) (nI pa) vl)) s.heap H locs → wr_W p l e wsX3_take ({ frames := 1, cells := 0, slots := 0, locals := 22 } : Room) s m [.ref ot, .int x] below meth c D (TyW ot yc yt cI co ln td (nI r) (nI pa) vl) (fun v w9 => v = some (.int (bI (tkS x (r, pa, vl, td)).1)) ∧ w9 = TyW ot yc yt cI co ln ((tkS x (r, pa, vl, td)).2.2.2.2) (nI ((tkS x (r, pa, vl, td)).2.1)) (nI ((tkS x (r, pa, vl, td)).2.2.1)) ((tkS x (r, pa, vl, td)).2.2.2.1)) H locs (F0 m 0 ls []) from body _ _ hP hD hS
  clear hP hD hS
  intro H locs hP hD hS
  refine lv_iload_n hx hb dX3_take_0 rfl (lv_at hl 1 rfl) ?_
  refine lv_bipush (v := 48) hx hb dX3_take_1 (by decide) ?_
  refine lv_icmp_lt (tgt := 21) hx hb dX3_take_3 (by decide) (fun c_3 => ?_) (fun c_3 => ?_)
  · have c_3n := Int32.not_le.mpr c_3
    suffices j41 : ∀ (H : Heap) (locs : List Loc) (ls : Array Slot), va_P D vwCl (TyW ot yc yt cI co ln td (nI r) (nI pa) vl) H → va_D (wr_in (TyW ot yc yt cI co ln td (nI r) (nI pa) vl)) (TyW ot yc yt cI co ln td (nI r) (nI pa) vl) → va_S (wr_in (TyW ot yc yt cI co ln td (nI r) (nI pa) vl)) s.heap H locs → lv_has ls 3 [(0, .ref ot), (1, .int x)] → wr_W p l e wsX3_take ({ frames := 1, cells := 0, slots := 0, locals := 22 } : Room) s m [.ref ot, .int x] below meth c D (TyW ot yc yt cI co ln td (nI r) (nI pa) vl) (fun v w9 => v = some (.int (bI (tkS x (r, pa, vl, td)).1)) ∧ w9 = TyW ot yc yt cI co ln ((tkS x (r, pa, vl, td)).2.2.2.2) (nI ((tkS x (r, pa, vl, td)).2.1)) (nI ((tkS x (r, pa, vl, td)).2.2.1)) ((tkS x (r, pa, vl, td)).2.2.2.1)) H locs (F0 m 41 ls [.int (tyNv vl pa x)]) by
      refine lv_aload_n hx hb dX3_take_21 rfl (lv_at hl 0 rfl) ?_
      refine va_get (D := D) (ci := 3) (v := .int vl) (C := RX3) (T := TX3) (N := 6) hx hb hts hinX3 hown hK hP 0 rfl rfl 5 (by decide) hw28 (fun _ h9 => h9) rfl dX3_take_22 ?_
      refine lv_iconst (v := (-1)) hx hb dX3_take_25 (by decide) ?_
      refine lv_icmp_ne (tgt := 33) hx hb dX3_take_26 (by decide) (fun c_26 => ?_) (fun c_26 => ?_)
      · refine lv_aload_n hx hb dX3_take_33 rfl (lv_at hl 0 rfl) ?_
        refine va_get (D := D) (ci := 3) (v := .int (nI pa)) (C := RX3) (T := TX3) (N := 6) hx hb hts hinX3 hown hK hP 0 rfl rfl 4 (by decide) hw25 (fun _ h9 => h9) rfl dX3_take_34 ?_
        refine lv_iload_n hx hb dX3_take_37 rfl (lv_at hl 1 rfl) ?_
        refine wr_callS (As := [.int (nI pa), .int x]) (rest := []) ⟨hx, hb, hml, hown, hts⟩ (c_X3_partAfter l D hpa x) (va_cwS 2 hts gX3_take_X3_partAfter rfl rfl rfl (by decide +kernel) ⟨by decide, by decide⟩) hK hN hZ hP hD hS [0, 1, 2] [0] rfl (by decide) rfl rfl hl.1 rfl (Nat.le_of_ble_eq_true rfl) ⟨by decide, by decide⟩ dX3_take_38 (fun v9 w9 H locs hp9 hP hD hS => ?_)
        obtain ⟨rfl, rfl⟩ := hp9
        have hP : va_P D vwCl (TyW ot yc yt cI co ln td (nI r) (nI pa) vl) H := hP
        have hD : va_D (wr_in (TyW ot yc yt cI co ln td (nI r) (nI pa) vl)) (TyW ot yc yt cI co ln td (nI r) (nI pa) vl) := hD
        refine W.eq (g2 := F0 m 41 ls [.int (tyNx pa x)]) rfl ?_
        refine lv_asi (y := tyNv vl pa x) (by unfold tyNv; simp [c_26]) ?_
        exact j41 H locs ls hP hD hS (lv_sub hl [0, 1] rfl)
      · refine lv_iconst (v := (-1)) hx hb dX3_take_29 (by decide) ?_
        refine lv_goto (tgt := 41) hx hb dX3_take_30 (by decide) ?_
        refine lv_asi (y := tyNv vl pa x) (by unfold tyNv; simp [c_26]) ?_
        exact j41 H locs ls hP hD hS (lv_sub hl [0, 1] rfl)
    intro H locs ls hP hD hS hl
    refine lv_istore_n (lv' := [(2, .int (tyNv vl pa x)), (0, .ref ot), (1, .int x)]) hx hb dX3_take_41 rfl hl (by decide) rfl (fun ls hl => ?_)
    refine lv_iload_n hx hb dX3_take_42 rfl (lv_at hl 0 rfl) ?_
    refine lv_iconst (v := (-1)) hx hb dX3_take_43 (by decide) ?_
    refine lv_icmp_ne (tgt := 49) hx hb dX3_take_44 (by decide) (fun c_44 => ?_) (fun c_44 => ?_)
    · refine lv_iload_n hx hb dX3_take_49 rfl (lv_at hl 0 rfl) ?_
      refine lv_if_ne (tgt := 58) hx hb dX3_take_50 (by decide) (fun c_50 => ?_) (fun c_50 => ?_)
      · obtain ⟨pq, hpq, epq⟩ := tyNv_nat c_44
        rw [epq] at hl
        have hl : lv_has ls 3 [(2, .int (nI pq)), (0, .ref ot), (1, .int x)] := hl
        refine lv_aload_n hx hb dX3_take_58 rfl (lv_at hl 1 rfl) ?_
        refine lv_iload_n hx hb dX3_take_59 rfl (lv_at hl 0 rfl) ?_
        refine va_put (D := D) (ci := 3) (v := .int (nI pq)) (ty := .int) (C := RX3) (T := TX3) (N := 6) hx hb hts hinX3 tyX3 tyX3_ok nmX3 hown hK hP hD hS 0 rfl rfl 4 (by decide) hw25 (fun _ h9 => h9) rfl (by decide +kernel) rfl rfl (Nat.le_of_ble_eq_true rfl) dX3_take_60 (fun H locs hP hD hS => ?_)
        have hP : va_P D vwCl (TyW ot yc yt cI co ln td (nI r) (nI pq) vl) H := hP
        have hD : va_D (wr_in (TyW ot yc yt cI co ln td (nI r) (nI pa) vl)) (TyW ot yc yt cI co ln td (nI r) (nI pq) vl) := hD
        refine lv_aload_n hx hb dX3_take_63 rfl (lv_at hl 1 rfl) ?_
        refine lv_iconst (v := (-1)) hx hb dX3_take_64 (by decide) ?_
        refine va_put (D := D) (ci := 3) (v := .int (-1)) (ty := .int) (C := RX3) (T := TX3) (N := 6) hx hb hts hinX3 tyX3 tyX3_ok nmX3 hown hK hP hD hS 0 rfl rfl 5 (by decide) hw28 (fun _ h9 => h9) rfl (by decide +kernel) rfl rfl (Nat.le_of_ble_eq_true rfl) dX3_take_65 (fun H locs hP hD hS => ?_)
        have hP : va_P D vwCl (TyW ot yc yt cI co ln td (nI r) (nI pq) (-1)) H := hP
        have hD : va_D (wr_in (TyW ot yc yt cI co ln td (nI r) (nI pa) vl)) (TyW ot yc yt cI co ln td (nI r) (nI pq) (-1)) := hD
        refine lv_iconst (v := 1) hx hb dX3_take_68 (by decide) ?_
        exact wr_zret (b := true) hx hb hr hlocks hP hS rfl dX3_take_69 (by rw [tkS_n (fun h => absurd h.1 c_3n) c_44 c_50 hpq epq]; exact ⟨rfl, rfl⟩)
      · refine lv_aload_n hx hb dX3_take_53 rfl (lv_at hl 1 rfl) ?_
        refine wr_callV (As := []) (rest := []) ⟨hx, hb, hml, hown, hts⟩ (c_X3_begin l D hr8) (cwV 0 hts gX3_take_X3_beginPoint rfl rfl rfl (by decide +kernel) ⟨by decide, by decide⟩) hK hN hZ hP hD hS [0, 1, 2] [0] rfl (by decide) rfl (q0 := 0) rfl rfl rfl hl.1 rfl (Nat.le_of_ble_eq_true rfl) ⟨by decide, by decide⟩ dX3_take_54 (fun v9 w9 H locs hp9 hP hD hS => ?_)
        obtain ⟨rfl, rfl⟩ := hp9
        have hP : va_P D vwCl (TyW ot yc yt cI co ln ((tyBg (r, pa, vl, td)).2.2.2.2) (nI ((tyBg (r, pa, vl, td)).2.1)) (nI ((tyBg (r, pa, vl, td)).2.2.1)) ((tyBg (r, pa, vl, td)).2.2.2.1)) H := hP
        have hD : va_D (wr_in (TyW ot yc yt cI co ln td (nI r) (nI pa) vl)) (TyW ot yc yt cI co ln ((tyBg (r, pa, vl, td)).2.2.2.2) (nI ((tyBg (r, pa, vl, td)).2.1)) (nI ((tyBg (r, pa, vl, td)).2.2.1)) ((tyBg (r, pa, vl, td)).2.2.2.1)) := hD
        refine W.eq (g2 := F0 m 57 ls [.int (bI ((tyBg (r, pa, vl, td)).1))]) rfl ?_
        exact wr_zret (b := (tyBg (r, pa, vl, td)).1) hx hb hr hlocks hP hS rfl dX3_take_57 (by rw [tkS_b (fun h => absurd h.1 c_3n) c_44 c_50]; exact ⟨rfl, rfl⟩)
    · refine lv_iconst (v := 0) hx hb dX3_take_47 (by decide) ?_
      exact wr_zret (b := false) hx hb hr hlocks hP hS rfl dX3_take_48 (by rw [tkS_f (fun h => absurd h.1 c_3n) c_44]; exact ⟨rfl, rfl⟩)
  · have c_3n := Int32.not_lt.mp c_3
    refine lv_iload_n hx hb dX3_take_6 rfl (lv_at hl 1 rfl) ?_
    refine lv_bipush (v := 57) hx hb dX3_take_7 (by decide) ?_
    refine lv_icmp_gt (tgt := 21) hx hb dX3_take_9 (by decide) (fun c_9 => ?_) (fun c_9 => ?_)
    · have c_9n := Int32.not_le.mpr c_9
      suffices j41 : ∀ (H : Heap) (locs : List Loc) (ls : Array Slot), va_P D vwCl (TyW ot yc yt cI co ln td (nI r) (nI pa) vl) H → va_D (wr_in (TyW ot yc yt cI co ln td (nI r) (nI pa) vl)) (TyW ot yc yt cI co ln td (nI r) (nI pa) vl) → va_S (wr_in (TyW ot yc yt cI co ln td (nI r) (nI pa) vl)) s.heap H locs → lv_has ls 3 [(0, .ref ot), (1, .int x)] → wr_W p l e wsX3_take ({ frames := 1, cells := 0, slots := 0, locals := 22 } : Room) s m [.ref ot, .int x] below meth c D (TyW ot yc yt cI co ln td (nI r) (nI pa) vl) (fun v w9 => v = some (.int (bI (tkS x (r, pa, vl, td)).1)) ∧ w9 = TyW ot yc yt cI co ln ((tkS x (r, pa, vl, td)).2.2.2.2) (nI ((tkS x (r, pa, vl, td)).2.1)) (nI ((tkS x (r, pa, vl, td)).2.2.1)) ((tkS x (r, pa, vl, td)).2.2.2.1)) H locs (F0 m 41 ls [.int (tyNv vl pa x)]) by
        refine lv_aload_n hx hb dX3_take_21 rfl (lv_at hl 0 rfl) ?_
        refine va_get (D := D) (ci := 3) (v := .int vl) (C := RX3) (T := TX3) (N := 6) hx hb hts hinX3 hown hK hP 0 rfl rfl 5 (by decide) hw28 (fun _ h9 => h9) rfl dX3_take_22 ?_
        refine lv_iconst (v := (-1)) hx hb dX3_take_25 (by decide) ?_
        refine lv_icmp_ne (tgt := 33) hx hb dX3_take_26 (by decide) (fun c_26 => ?_) (fun c_26 => ?_)
        · refine lv_aload_n hx hb dX3_take_33 rfl (lv_at hl 0 rfl) ?_
          refine va_get (D := D) (ci := 3) (v := .int (nI pa)) (C := RX3) (T := TX3) (N := 6) hx hb hts hinX3 hown hK hP 0 rfl rfl 4 (by decide) hw25 (fun _ h9 => h9) rfl dX3_take_34 ?_
          refine lv_iload_n hx hb dX3_take_37 rfl (lv_at hl 1 rfl) ?_
          refine wr_callS (As := [.int (nI pa), .int x]) (rest := []) ⟨hx, hb, hml, hown, hts⟩ (c_X3_partAfter l D hpa x) (va_cwS 2 hts gX3_take_X3_partAfter rfl rfl rfl (by decide +kernel) ⟨by decide, by decide⟩) hK hN hZ hP hD hS [0, 1, 2] [0] rfl (by decide) rfl rfl hl.1 rfl (Nat.le_of_ble_eq_true rfl) ⟨by decide, by decide⟩ dX3_take_38 (fun v9 w9 H locs hp9 hP hD hS => ?_)
          obtain ⟨rfl, rfl⟩ := hp9
          have hP : va_P D vwCl (TyW ot yc yt cI co ln td (nI r) (nI pa) vl) H := hP
          have hD : va_D (wr_in (TyW ot yc yt cI co ln td (nI r) (nI pa) vl)) (TyW ot yc yt cI co ln td (nI r) (nI pa) vl) := hD
          refine W.eq (g2 := F0 m 41 ls [.int (tyNx pa x)]) rfl ?_
          refine lv_asi (y := tyNv vl pa x) (by unfold tyNv; simp [c_26]) ?_
          exact j41 H locs ls hP hD hS (lv_sub hl [0, 1] rfl)
        · refine lv_iconst (v := (-1)) hx hb dX3_take_29 (by decide) ?_
          refine lv_goto (tgt := 41) hx hb dX3_take_30 (by decide) ?_
          refine lv_asi (y := tyNv vl pa x) (by unfold tyNv; simp [c_26]) ?_
          exact j41 H locs ls hP hD hS (lv_sub hl [0, 1] rfl)
      intro H locs ls hP hD hS hl
      refine lv_istore_n (lv' := [(2, .int (tyNv vl pa x)), (0, .ref ot), (1, .int x)]) hx hb dX3_take_41 rfl hl (by decide) rfl (fun ls hl => ?_)
      refine lv_iload_n hx hb dX3_take_42 rfl (lv_at hl 0 rfl) ?_
      refine lv_iconst (v := (-1)) hx hb dX3_take_43 (by decide) ?_
      refine lv_icmp_ne (tgt := 49) hx hb dX3_take_44 (by decide) (fun c_44 => ?_) (fun c_44 => ?_)
      · refine lv_iload_n hx hb dX3_take_49 rfl (lv_at hl 0 rfl) ?_
        refine lv_if_ne (tgt := 58) hx hb dX3_take_50 (by decide) (fun c_50 => ?_) (fun c_50 => ?_)
        · obtain ⟨pq, hpq, epq⟩ := tyNv_nat c_44
          rw [epq] at hl
          have hl : lv_has ls 3 [(2, .int (nI pq)), (0, .ref ot), (1, .int x)] := hl
          refine lv_aload_n hx hb dX3_take_58 rfl (lv_at hl 1 rfl) ?_
          refine lv_iload_n hx hb dX3_take_59 rfl (lv_at hl 0 rfl) ?_
          refine va_put (D := D) (ci := 3) (v := .int (nI pq)) (ty := .int) (C := RX3) (T := TX3) (N := 6) hx hb hts hinX3 tyX3 tyX3_ok nmX3 hown hK hP hD hS 0 rfl rfl 4 (by decide) hw25 (fun _ h9 => h9) rfl (by decide +kernel) rfl rfl (Nat.le_of_ble_eq_true rfl) dX3_take_60 (fun H locs hP hD hS => ?_)
          have hP : va_P D vwCl (TyW ot yc yt cI co ln td (nI r) (nI pq) vl) H := hP
          have hD : va_D (wr_in (TyW ot yc yt cI co ln td (nI r) (nI pa) vl)) (TyW ot yc yt cI co ln td (nI r) (nI pq) vl) := hD
          refine lv_aload_n hx hb dX3_take_63 rfl (lv_at hl 1 rfl) ?_
          refine lv_iconst (v := (-1)) hx hb dX3_take_64 (by decide) ?_
          refine va_put (D := D) (ci := 3) (v := .int (-1)) (ty := .int) (C := RX3) (T := TX3) (N := 6) hx hb hts hinX3 tyX3 tyX3_ok nmX3 hown hK hP hD hS 0 rfl rfl 5 (by decide) hw28 (fun _ h9 => h9) rfl (by decide +kernel) rfl rfl (Nat.le_of_ble_eq_true rfl) dX3_take_65 (fun H locs hP hD hS => ?_)
          have hP : va_P D vwCl (TyW ot yc yt cI co ln td (nI r) (nI pq) (-1)) H := hP
          have hD : va_D (wr_in (TyW ot yc yt cI co ln td (nI r) (nI pa) vl)) (TyW ot yc yt cI co ln td (nI r) (nI pq) (-1)) := hD
          refine lv_iconst (v := 1) hx hb dX3_take_68 (by decide) ?_
          exact wr_zret (b := true) hx hb hr hlocks hP hS rfl dX3_take_69 (by rw [tkS_n (fun h => absurd h.2 c_9n) c_44 c_50 hpq epq]; exact ⟨rfl, rfl⟩)
        · refine lv_aload_n hx hb dX3_take_53 rfl (lv_at hl 1 rfl) ?_
          refine wr_callV (As := []) (rest := []) ⟨hx, hb, hml, hown, hts⟩ (c_X3_begin l D hr8) (cwV 0 hts gX3_take_X3_beginPoint rfl rfl rfl (by decide +kernel) ⟨by decide, by decide⟩) hK hN hZ hP hD hS [0, 1, 2] [0] rfl (by decide) rfl (q0 := 0) rfl rfl rfl hl.1 rfl (Nat.le_of_ble_eq_true rfl) ⟨by decide, by decide⟩ dX3_take_54 (fun v9 w9 H locs hp9 hP hD hS => ?_)
          obtain ⟨rfl, rfl⟩ := hp9
          have hP : va_P D vwCl (TyW ot yc yt cI co ln ((tyBg (r, pa, vl, td)).2.2.2.2) (nI ((tyBg (r, pa, vl, td)).2.1)) (nI ((tyBg (r, pa, vl, td)).2.2.1)) ((tyBg (r, pa, vl, td)).2.2.2.1)) H := hP
          have hD : va_D (wr_in (TyW ot yc yt cI co ln td (nI r) (nI pa) vl)) (TyW ot yc yt cI co ln ((tyBg (r, pa, vl, td)).2.2.2.2) (nI ((tyBg (r, pa, vl, td)).2.1)) (nI ((tyBg (r, pa, vl, td)).2.2.1)) ((tyBg (r, pa, vl, td)).2.2.2.1)) := hD
          refine W.eq (g2 := F0 m 57 ls [.int (bI ((tyBg (r, pa, vl, td)).1))]) rfl ?_
          exact wr_zret (b := (tyBg (r, pa, vl, td)).1) hx hb hr hlocks hP hS rfl dX3_take_57 (by rw [tkS_b (fun h => absurd h.2 c_9n) c_44 c_50]; exact ⟨rfl, rfl⟩)
      · refine lv_iconst (v := 0) hx hb dX3_take_47 (by decide) ?_
        exact wr_zret (b := false) hx hb hr hlocks hP hS rfl dX3_take_48 (by rw [tkS_f (fun h => absurd h.2 c_9n) c_44]; exact ⟨rfl, rfl⟩)
    · have c_9n := Int32.not_lt.mp c_9
      refine lv_aload_n hx hb dX3_take_12 rfl (lv_at hl 0 rfl) ?_
      refine lv_iload_n hx hb dX3_take_13 rfl (lv_at hl 1 rfl) ?_
      refine lv_bipush (v := 48) hx hb dX3_take_14 (by decide) ?_
      refine lv_isub hx hb dX3_take_16 ?_
      refine wr_callV (As := [.int (x - 48)]) (rest := []) ⟨hx, hb, hml, hown, hts⟩ (c_X3_takeDigit l D hr8 hpa (x - 48)) (cwV 1 hts gX3_take_X3_takeDigit rfl rfl rfl (by decide +kernel) ⟨by decide, by decide⟩) hK hN hZ hP hD hS [0, 1, 2] [0] rfl (by decide) rfl (q0 := 0) rfl rfl rfl hl.1 rfl (Nat.le_of_ble_eq_true rfl) ⟨by decide, by decide⟩ dX3_take_17 (fun v9 w9 H locs hp9 hP hD hS => ?_)
      obtain ⟨rfl, rfl⟩ := hp9
      have hP : va_P D vwCl (TyW ot yc yt cI co ln ((tyDg (x - 48) (r, pa, vl, td)).2.2.2.2) (nI ((tyDg (x - 48) (r, pa, vl, td)).2.1)) (nI ((tyDg (x - 48) (r, pa, vl, td)).2.2.1)) ((tyDg (x - 48) (r, pa, vl, td)).2.2.2.1)) H := hP
      have hD : va_D (wr_in (TyW ot yc yt cI co ln td (nI r) (nI pa) vl)) (TyW ot yc yt cI co ln ((tyDg (x - 48) (r, pa, vl, td)).2.2.2.2) (nI ((tyDg (x - 48) (r, pa, vl, td)).2.1)) (nI ((tyDg (x - 48) (r, pa, vl, td)).2.2.1)) ((tyDg (x - 48) (r, pa, vl, td)).2.2.2.1)) := hD
      refine W.eq (g2 := F0 m 20 ls [.int (bI ((tyDg (x - 48) (r, pa, vl, td)).1))]) rfl ?_
      exact wr_zret (b := (tyDg (x - 48) (r, pa, vl, td)).1) hx hb hr hlocks hP hS rfl dX3_take_20 (by rw [tkS_dg ⟨c_3n, c_9n⟩]; exact ⟨rfl, rfl⟩)
set_option maxHeartbeats 4000000 in
set_option maxRecDepth 100000 in
theorem c_X3_scan (l : Launch) (D : va_G) {ot yc yt : Nat} {cI : ClassId} {rg pa vl : Int32} {co td : Nat → Int32} {b : Nat} (hb60 : b ≤ 60) : wr_M l yX3_scan wsX3_scan ({ frames := 2, cells := 0, slots := 0, locals := 44 } : Room) D (TyW ot yc yt cI co (nI b) td rg pa vl) [(cI, .int)] [.ref ot] (fun v w9 => v = some (.int (nI (tyR co b 0 (tyIn td)).1)) ∧ w9 = TyW ot yc yt cI co (nI b) (((tyR co b 0 (tyIn td)).2).2.2.2.2) (nI (((tyR co b 0 (tyIn td)).2).2.1)) (nI (((tyR co b 0 (tyIn td)).2).2.2.1)) (((tyR co b 0 (tyIn td)).2).2.2.2.1)) := by
  refine wr_of (cc := cX3_scan) (maxL := 2) (ret := some .int) (by decide) rfl (Nat.le_of_ble_eq_true rfl) ?_
  intro p e s m below meth c hx hb hr hml hts hown hlocks hP hK hN hZ hD hS ls hl
  have hown : s.vm.findClass RX3 = some m.cls := hown
  have hl : lv_has ls 2 [(0, .ref ot)] := hl
  have hinX3 : ∀ w ∈ u_ws RX3 TX3 6, w ∈ wsX3_scan := by decide +kernel
  have hw22 := hts (.fieldLink RX3 22 "CornerLabels$Typed" "reading" "I") (by decide +kernel)
  have hw15 := hts (.fieldLink RX3 15 "CornerLabels$Typed" "length" "I") (by decide +kernel)
  have hw9 := hts (.fieldLink RX3 9 "CornerLabels$Typed" "codes" "[I") (by decide +kernel)
  suffices body : ∀ (H : Heap) (locs : List Loc), va_P D vwCl (TyW ot yc yt cI co (nI b) td rg pa vl) H → va_D (wr_in (TyW ot yc yt cI co (nI b) td rg pa vl)) (TyW ot yc yt cI co (nI b) td rg pa vl) → va_S (wr_in (TyW ot yc yt cI co (nI b) td rg pa vl)) s.heap H locs → wr_W p l e wsX3_scan ({ frames := 2, cells := 0, slots := 0, locals := 44 } : Room) s m [.ref ot] below meth c D (TyW ot yc yt cI co (nI b) td rg pa vl) (fun v w9 => v = some (.int (nI (tyR co b 0 (tyIn td)).1)) ∧ w9 = TyW ot yc yt cI co (nI b) (((tyR co b 0 (tyIn td)).2).2.2.2.2) (nI (((tyR co b 0 (tyIn td)).2).2.1)) (nI (((tyR co b 0 (tyIn td)).2).2.2.1)) (((tyR co b 0 (tyIn td)).2).2.2.2.1)) H locs (F0 m 0 ls []) from body _ _ hP hD hS
  clear hP hD hS
  intro H locs hP hD hS
  refine lv_aload_n hx hb dX3_scan_0 rfl (lv_at hl 0 rfl) ?_
  refine lv_iconst (v := (-1)) hx hb dX3_scan_1 (by decide) ?_
  refine va_put (D := D) (ci := 3) (v := .int (-1)) (ty := .int) (C := RX3) (T := TX3) (N := 6) hx hb hts hinX3 tyX3 tyX3_ok nmX3 hown hK hP hD hS 0 rfl rfl 3 (by decide) hw22 (fun _ h9 => h9) rfl (by decide +kernel) rfl rfl (Nat.le_of_ble_eq_true rfl) dX3_scan_2 (fun H locs hP hD hS => ?_)
  have hP : va_P D vwCl (TyW ot yc yt cI co (nI b) td (-1) pa vl) H := hP
  have hD : va_D (wr_in (TyW ot yc yt cI co (nI b) td rg pa vl)) (TyW ot yc yt cI co (nI b) td (-1) pa vl) := hD
  refine lv_aload_n hx hb dX3_scan_5 rfl (lv_at hl 0 rfl) ?_
  refine wr_callV (As := []) (rest := []) ⟨hx, hb, hml, hown, hts⟩ (c_X3_beginPoint l D (q := 0) (by decide) (by decide)) (cwV 0 hts gX3_scan_X3_beginPoint rfl rfl rfl (by decide +kernel) ⟨by decide, by decide⟩) hK hN hZ hP hD hS [0, 1, 2] [0] rfl (by decide) rfl (q0 := 0) rfl rfl rfl hl.1 rfl (Nat.le_of_ble_eq_true rfl) ⟨by decide, by decide⟩ dX3_scan_6 (fun v9 w9 H locs hp9 hP hD hS => ?_)
  obtain hp9 := hp9
  rcases hp9 with ⟨-, rfl, rfl⟩ | ⟨h9, -, -⟩
  rotate_left
  · exact absurd h9 (by decide)
  have hP : va_P D vwCl (TyW ot yc yt cI co (nI b) (upd td 4 1) (nI 0) 0 (-1)) H := hP
  have hD : va_D (wr_in (TyW ot yc yt cI co (nI b) td rg pa vl)) (TyW ot yc yt cI co (nI b) (upd td 4 1) (nI 0) 0 (-1)) := hD
  refine W.eq (g2 := F0 m 9 ls [.int (bI true)]) rfl ?_
  refine lv_pop hx hb dX3_scan_9 rfl ?_
  refine lv_iconst (v := 0) hx hb dX3_scan_10 (by decide) ?_
  refine lv_istore_n (lv' := [(1, .int 0), (0, .ref ot)]) hx hb dX3_scan_11 rfl hl (by decide) rfl (fun ls hl => ?_)
  suffices loop12 : ∀ (k12 i : Nat) (r1 : Nat) (p1 : Nat) (v1 : Int32) (t1 : Nat → Int32) (H : Heap) (locs : List Loc) (ls : Array Slot), i ≤ b → b + 1 ≤ i + k12 → (tyR co b i (r1, p1, v1, t1) = tyR co b 0 (tyIn td) ∧ r1 < 8 ∧ p1 < 5) → va_P D vwCl (TyW ot yc yt cI co (nI b) t1 (nI r1) (nI p1) v1) H → va_D (wr_in (TyW ot yc yt cI co (nI b) td rg pa vl)) (TyW ot yc yt cI co (nI b) t1 (nI r1) (nI p1) v1) → va_S (wr_in (TyW ot yc yt cI co (nI b) td rg pa vl)) s.heap H locs → lv_has ls 2 [(0, .ref ot), (1, .int (nI i))] → wr_W p l e wsX3_scan ({ frames := 2, cells := 0, slots := 0, locals := 44 } : Room) s m [.ref ot] below meth c D (TyW ot yc yt cI co (nI b) td rg pa vl) (fun v w9 => v = some (.int (nI (tyR co b 0 (tyIn td)).1)) ∧ w9 = TyW ot yc yt cI co (nI b) (((tyR co b 0 (tyIn td)).2).2.2.2.2) (nI (((tyR co b 0 (tyIn td)).2).2.1)) (nI (((tyR co b 0 (tyIn td)).2).2.2.1)) (((tyR co b 0 (tyIn td)).2).2.2.2.1)) H locs (F0 m 12 ls []) from
    loop12 (b + 1) 0 0 0 (-1) (upd td 4 1) H locs ls (by omega) (by omega) (by exact ⟨rfl, by decide, by decide⟩) hP hD hS (lv_sub hl [1, 0] rfl)
  intro k12
  induction k12 with
  | zero => intro i r1 p1 v1 t1 H locs ls h1 h2; exact absurd h2 (by omega)
  | succ k12 ih12 =>
    intro i r1 p1 v1 t1 H locs ls hle12 hlt12 inv12 hP hD hS hl
    refine lv_iload_n hx hb dX3_scan_12 rfl (lv_at hl 1 rfl) ?_
    refine lv_aload_n hx hb dX3_scan_13 rfl (lv_at hl 0 rfl) ?_
    refine va_get (D := D) (ci := 3) (v := .int (nI b)) (C := RX3) (T := TX3) (N := 6) hx hb hts hinX3 hown hK hP 0 rfl rfl 1 (by decide) hw15 (fun _ h9 => h9) rfl dX3_scan_14 ?_
    refine rd_icmp_ge_n (a := i) (b := b) (tgt := 41) (by omega) (by omega) hx hb dX3_scan_17 (by decide) (fun c_17 => ?_) (fun c_17 => ?_)
    · have c_17n := Nat.not_lt.mpr c_17
      refine lv_aload_n hx hb dX3_scan_41 rfl (lv_at hl 0 rfl) ?_
      refine va_get (D := D) (ci := 3) (v := .int (nI b)) (C := RX3) (T := TX3) (N := 6) hx hb hts hinX3 hown hK hP 0 rfl rfl 1 (by decide) hw15 (fun _ h9 => h9) rfl dX3_scan_42 ?_
      exact wr_iret hx hb hr hlocks hP hS rfl dX3_scan_45 (by rw [← inv12.1, tyR_end c_17, show i = b by omega]; exact ⟨rfl, rfl⟩)
    · have c_17n := Nat.not_le.mpr c_17
      refine lv_aload_n hx hb dX3_scan_20 rfl (lv_at hl 0 rfl) ?_
      refine lv_aload_n hx hb dX3_scan_21 rfl (lv_at hl 0 rfl) ?_
      refine va_get (D := D) (ci := 3) (v := .ref yc) (C := RX3) (T := TX3) (N := 6) hx hb hts hinX3 hown hK hP 0 rfl rfl 0 (by decide) hw9 (fun _ h9 => h9) rfl dX3_scan_22 ?_
      refine lv_iload_n hx hb dX3_scan_25 rfl (lv_at hl 1 rfl) ?_
      refine rd_ald (q0 := 1) (t0 := 0) (j := i) (v := co i) hx hb hK hP rfl rfl (rfl) (by omega) (by decide) (rfl) dX3_scan_26 ?_
      refine wr_callV (As := [.int (co i)]) (rest := []) ⟨hx, hb, hml, hown, hts⟩ (c_X3_take l D inv12.2.1 inv12.2.2 (co i)) (cwV 1 hts gX3_scan_X3_take rfl rfl rfl (by decide +kernel) ⟨by decide, by decide⟩) hK hN hZ hP hD hS [0, 1, 2] [0] rfl (by decide) rfl (q0 := 0) rfl rfl rfl hl.1 rfl (Nat.le_of_ble_eq_true rfl) ⟨by decide, by decide⟩ dX3_scan_27 (fun v9 w9 H locs hp9 hP hD hS => ?_)
      obtain ⟨rfl, rfl⟩ := hp9
      have hP : va_P D vwCl (TyW ot yc yt cI co (nI b) ((tkS (co i) (r1, p1, v1, t1)).2.2.2.2) (nI ((tkS (co i) (r1, p1, v1, t1)).2.1)) (nI ((tkS (co i) (r1, p1, v1, t1)).2.2.1)) ((tkS (co i) (r1, p1, v1, t1)).2.2.2.1)) H := hP
      have hD : va_D (wr_in (TyW ot yc yt cI co (nI b) td rg pa vl)) (TyW ot yc yt cI co (nI b) ((tkS (co i) (r1, p1, v1, t1)).2.2.2.2) (nI ((tkS (co i) (r1, p1, v1, t1)).2.1)) (nI ((tkS (co i) (r1, p1, v1, t1)).2.2.1)) ((tkS (co i) (r1, p1, v1, t1)).2.2.2.1)) := hD
      refine W.eq (g2 := F0 m 30 ls [.int (bI ((tkS (co i) (r1, p1, v1, t1)).1))]) rfl ?_
      refine rd_ifne_b (tgt := 35) hx hb dX3_scan_30 (by decide) (fun c_30 => ?_) (fun c_30 => ?_)
      · refine lv_iinc (v := nI (i + 1)) (lv' := [(1, .int (nI (i + 1))), (0, .ref ot)]) hx hb dX3_scan_35 hl (k := 1) rfl (nI_add i 1) (by decide) rfl (fun ls hl => ?_)
        refine lv_goto (tgt := 12) hx hb dX3_scan_38 (by decide) ?_
        exact ih12 (i + 1) ((tkS (co i) (r1, p1, v1, t1)).2.1) ((tkS (co i) (r1, p1, v1, t1)).2.2.1) ((tkS (co i) (r1, p1, v1, t1)).2.2.2.1) ((tkS (co i) (r1, p1, v1, t1)).2.2.2.2) H locs ls (by omega) (by omega) (by exact ⟨(tyR_go c_17 c_30).symm.trans inv12.1, tkS_ok inv12.2.1 inv12.2.2⟩) hP hD hS (lv_sub hl [1, 0] rfl)
      · refine lv_iload_n hx hb dX3_scan_33 rfl (lv_at hl 1 rfl) ?_
        exact wr_iret hx hb hr hlocks hP hS rfl dX3_scan_34 (by rw [← inv12.1, tyR_no c_17 c_30]; exact ⟨rfl, rfl⟩)
