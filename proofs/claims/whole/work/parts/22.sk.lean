set_option maxHeartbeats 4000000 in
set_option maxRecDepth 100000 in
theorem c_X2_seek (l : Launch) (D : va_G) {op xO xW xN xC xA xM xG xT xH xR xF xB xX ob oc : Nat} {cI cZ : ClassId} {n : Nat} (hn8 : n ≤ 8) {kS kT : Int32} {aO aW aN aC aA aM aG aT aH aB aX f : Nat → Int32} : ∀ (d i : Nat), i + d = n → ∀ (blk sc kF : Int32) (aF aR : Nat → Int32), wr_M l yX2_seek wsX2_seek ({ frames := d + 2, cells := 0, slots := 0, locals := 27 * d + 81 } : Room) D (PlW op xO xW xN xC xA xM xG xT xH xR xF xB xX ob oc cI cZ (nI n) aO aW aN aC aA kS aM aG aT aH aR aF kF aB kT aX (nI n) f) [(cI, .int), (cZ, .boolean)] [.ref op, .int (nI i), .int blk, .int sc] (fun v w9 => v = none ∧ w9 = PlW op xO xW xN xC xA xM xG xT xH xR xF xB xX ob oc cI cZ (nI n) aO aW aN aC aA kS aM aG aT aH ((skM aC aA aM aG aT aH kS d i blk sc (kF, aF, aR)).2.2) ((skM aC aA aM aG aT aH kS d i blk sc (kF, aF, aR)).2.1) ((skM aC aA aM aG aT aH kS d i blk sc (kF, aF, aR)).1) aB kT aX (nI n) f) := by
  intro d
  induction d with
  | zero =>
    intro i hid blk sc kF aF aR
    refine wr_of (cc := cX2_seek) (maxL := 8) (ret := none) (by decide) rfl (Nat.le_of_ble_eq_true rfl) ?_
    intro p e s m below meth c hx hb hr hml hts hown hlocks hP hK hN hZ hD hS ls hl
    have hown : s.vm.findClass RX2 = some m.cls := hown
    have hl : lv_has ls 8 [(0, .ref op), (1, .int (nI i)), (2, .int blk), (3, .int sc)] := hl
    have hinX2 : ∀ w ∈ u_ws RX2 TX2 17, w ∈ wsX2_seek := by decide +kernel
    have hw9 := hts (.fieldLink RX2 9 "CornerLabels$Plans" "points" "I") (by decide +kernel)
    suffices body : ∀ (H : Heap) (locs : List Loc), va_P D vwCl (PlW op xO xW xN xC xA xM xG xT xH xR xF xB xX ob oc cI cZ (nI n) aO aW aN aC aA kS aM aG aT aH aR aF kF aB kT aX (nI n) f) H → va_D (wr_in (PlW op xO xW xN xC xA xM xG xT xH xR xF xB xX ob oc cI cZ (nI n) aO aW aN aC aA kS aM aG aT aH aR aF kF aB kT aX (nI n) f)) (PlW op xO xW xN xC xA xM xG xT xH xR xF xB xX ob oc cI cZ (nI n) aO aW aN aC aA kS aM aG aT aH aR aF kF aB kT aX (nI n) f) → va_S (wr_in (PlW op xO xW xN xC xA xM xG xT xH xR xF xB xX ob oc cI cZ (nI n) aO aW aN aC aA kS aM aG aT aH aR aF kF aB kT aX (nI n) f)) s.heap H locs → wr_W p l e wsX2_seek ({ frames := 0 + 2, cells := 0, slots := 0, locals := 27 * 0 + 81 } : Room) s m [.ref op, .int (nI i), .int blk, .int sc] below meth c D (PlW op xO xW xN xC xA xM xG xT xH xR xF xB xX ob oc cI cZ (nI n) aO aW aN aC aA kS aM aG aT aH aR aF kF aB kT aX (nI n) f) (fun v w9 => v = none ∧ w9 = PlW op xO xW xN xC xA xM xG xT xH xR xF xB xX ob oc cI cZ (nI n) aO aW aN aC aA kS aM aG aT aH ((skM aC aA aM aG aT aH kS 0 i blk sc (kF, aF, aR)).2.2) ((skM aC aA aM aG aT aH kS 0 i blk sc (kF, aF, aR)).2.1) ((skM aC aA aM aG aT aH kS 0 i blk sc (kF, aF, aR)).1) aB kT aX (nI n) f) H locs (F0 m 0 ls []) from body _ _ hP hD hS
    clear hP hD hS
    intro H locs hP hD hS
    refine lv_iload_n hx hb dX2_seek_0 rfl (lv_at hl 1 rfl) ?_
    refine lv_aload_n hx hb dX2_seek_1 rfl (lv_at hl 0 rfl) ?_
    refine va_get (D := D) (ci := 2) (v := .int (nI n)) (C := RX2) (T := TX2) (N := 17) hx hb hts hinX2 hown hK hP 0 rfl rfl 0 (by decide) hw9 (fun _ h9 => h9) rfl dX2_seek_2 ?_
    refine rd_icmp_lt_n (a := i) (b := n) (tgt := 14) (by omega) (by omega) hx hb dX2_seek_5 (by decide) (fun c_5 => ?_) (fun c_5 => ?_)
    · exact absurd c_5 (by omega)
    refine lv_aload_n hx hb dX2_seek_8 rfl (lv_at hl 0 rfl) ?_
    refine lv_iload_n hx hb dX2_seek_9 rfl (lv_at hl 3 rfl) ?_
    refine wr_callV (As := [.int sc]) (rest := []) ⟨hx, hb, hml, hown, hts⟩ (c_X2_keepTrial (P := fun _ _ => 0) l D sc) (cwV 1 hts gX2_seek_X2_keepTrial rfl rfl rfl (by decide +kernel) ⟨by show 1 + 1 ≤ 0 + 2; omega, by show 8 + (2 + 11) + (60) ≤ 27 * 0 + 81; omega⟩) hK hN hZ hP hD hS [0, 1, 2, 3, 4, 5, 6, 7, 8, 9, 10, 11, 12, 13, 14, 15] [0, 1] rfl (by decide) rfl (q0 := 0) rfl rfl rfl hl.1 rfl (Nat.le_of_ble_eq_true rfl) ⟨Nat.zero_le _, Nat.zero_le _⟩ dX2_seek_10 (fun v9 w9 H locs hp9 hP hD hS => ?_)
    obtain ⟨rfl, rfl⟩ := hp9
    have hP : va_P D vwCl (PlW op xO xW xN xC xA xM xG xT xH xR xF xB xX ob oc cI cZ (nI n) aO aW aN aC aA kS aM aG aT aH aR (if kF < sc then va_cpy aR aF 0 0 8 else aF) (if kF < sc then sc else kF) aB kT aX (nI n) f) H := hP
    have hD : va_D (wr_in (PlW op xO xW xN xC xA xM xG xT xH xR xF xB xX ob oc cI cZ (nI n) aO aW aN aC aA kS aM aG aT aH aR aF kF aB kT aX (nI n) f)) (PlW op xO xW xN xC xA xM xG xT xH xR xF xB xX ob oc cI cZ (nI n) aO aW aN aC aA kS aM aG aT aH aR (if kF < sc then va_cpy aR aF 0 0 8 else aF) (if kF < sc then sc else kF) aB kT aX (nI n) f) := hD
    refine W.eq (g2 := F0 m 13 ls []) rfl ?_
    exact wr_vret hx hb hr hlocks hP hS rfl dX2_seek_13 (by exact ⟨rfl, rfl⟩)
  | succ d ihd =>
    intro i hid blk sc kF aF aR
    refine wr_of (cc := cX2_seek) (maxL := 8) (ret := none) (by decide) rfl (Nat.le_of_ble_eq_true rfl) ?_
    intro p e s m below meth c hx hb hr hml hts hown hlocks hP hK hN hZ hD hS ls hl
    have hown : s.vm.findClass RX2 = some m.cls := hown
    have hl : lv_has ls 8 [(0, .ref op), (1, .int (nI i)), (2, .int blk), (3, .int sc)] := hl
    have hinX2 : ∀ w ∈ u_ws RX2 TX2 17, w ∈ wsX2_seek := by decide +kernel
    have hw9 := hts (.fieldLink RX2 9 "CornerLabels$Plans" "points" "I") (by decide +kernel)
    have hw44 := hts (.fieldLink RX2 44 "CornerLabels$Plans" "hope" "[I") (by decide +kernel)
    have hw53 := hts (.fieldLink RX2 53 "CornerLabels$Plans" "foundScore" "I") (by decide +kernel)
    have hw28 := hts (.fieldLink RX2 28 "CornerLabels$Plans" "allowed" "[I") (by decide +kernel)
    have hw34 := hts (.fieldLink RX2 34 "CornerLabels$Plans" "mayDrop" "[Z") (by decide +kernel)
    have hw47 := hts (.fieldLink RX2 47 "CornerLabels$Plans" "trial" "[I") (by decide +kernel)
    have hw25 := hts (.fieldLink RX2 25 "CornerLabels$Plans" "clashing" "[I") (by decide +kernel)
    have hw31 := hts (.fieldLink RX2 31 "CornerLabels$Plans" "allowedSpots" "I") (by decide +kernel)
    have hw38 := hts (.fieldLink RX2 38 "CornerLabels$Plans" "gain" "[I") (by decide +kernel)
    have hw41 := hts (.fieldLink RX2 41 "CornerLabels$Plans" "mostGain" "[I") (by decide +kernel)
    suffices body : ∀ (H : Heap) (locs : List Loc), va_P D vwCl (PlW op xO xW xN xC xA xM xG xT xH xR xF xB xX ob oc cI cZ (nI n) aO aW aN aC aA kS aM aG aT aH aR aF kF aB kT aX (nI n) f) H → va_D (wr_in (PlW op xO xW xN xC xA xM xG xT xH xR xF xB xX ob oc cI cZ (nI n) aO aW aN aC aA kS aM aG aT aH aR aF kF aB kT aX (nI n) f)) (PlW op xO xW xN xC xA xM xG xT xH xR xF xB xX ob oc cI cZ (nI n) aO aW aN aC aA kS aM aG aT aH aR aF kF aB kT aX (nI n) f) → va_S (wr_in (PlW op xO xW xN xC xA xM xG xT xH xR xF xB xX ob oc cI cZ (nI n) aO aW aN aC aA kS aM aG aT aH aR aF kF aB kT aX (nI n) f)) s.heap H locs → wr_W p l e wsX2_seek ({ frames := d + 1 + 2, cells := 0, slots := 0, locals := 27 * (d + 1) + 81 } : Room) s m [.ref op, .int (nI i), .int blk, .int sc] below meth c D (PlW op xO xW xN xC xA xM xG xT xH xR xF xB xX ob oc cI cZ (nI n) aO aW aN aC aA kS aM aG aT aH aR aF kF aB kT aX (nI n) f) (fun v w9 => v = none ∧ w9 = PlW op xO xW xN xC xA xM xG xT xH xR xF xB xX ob oc cI cZ (nI n) aO aW aN aC aA kS aM aG aT aH ((skM aC aA aM aG aT aH kS (d + 1) i blk sc (kF, aF, aR)).2.2) ((skM aC aA aM aG aT aH kS (d + 1) i blk sc (kF, aF, aR)).2.1) ((skM aC aA aM aG aT aH kS (d + 1) i blk sc (kF, aF, aR)).1) aB kT aX (nI n) f) H locs (F0 m 0 ls []) from body _ _ hP hD hS
    clear hP hD hS
    intro H locs hP hD hS
    refine lv_iload_n hx hb dX2_seek_0 rfl (lv_at hl 1 rfl) ?_
    refine lv_aload_n hx hb dX2_seek_1 rfl (lv_at hl 0 rfl) ?_
    refine va_get (D := D) (ci := 2) (v := .int (nI n)) (C := RX2) (T := TX2) (N := 17) hx hb hts hinX2 hown hK hP 0 rfl rfl 0 (by decide) hw9 (fun _ h9 => h9) rfl dX2_seek_2 ?_
    refine rd_icmp_lt_n (a := i) (b := n) (tgt := 14) (by omega) (by omega) hx hb dX2_seek_5 (by decide) (fun c_5 => ?_) (fun c_5 => ?_)
    rotate_left
    · exact absurd c_5 (by omega)
    refine lv_iload_n hx hb dX2_seek_14 rfl (lv_at hl 3 rfl) ?_
    refine lv_aload_n hx hb dX2_seek_15 rfl (lv_at hl 0 rfl) ?_
    refine va_get (D := D) (ci := 2) (v := .ref xH) (C := RX2) (T := TX2) (N := 17) hx hb hts hinX2 hown hK hP 0 rfl rfl 10 (by decide) hw44 (fun _ h9 => h9) rfl dX2_seek_16 ?_
    refine lv_iload_n hx hb dX2_seek_19 rfl (lv_at hl 1 rfl) ?_
    refine rd_ald (q0 := 9) (t0 := 0) (j := i) (v := aH i) hx hb hK hP rfl rfl (rfl) (by omega) (by decide) (rfl) dX2_seek_20 ?_
    refine lv_iadd hx hb dX2_seek_21 ?_
    refine lv_aload_n hx hb dX2_seek_22 rfl (lv_at hl 0 rfl) ?_
    refine va_get (D := D) (ci := 2) (v := .int kF) (C := RX2) (T := TX2) (N := 17) hx hb hts hinX2 hown hK hP 0 rfl rfl 13 (by decide) hw53 (fun _ h9 => h9) rfl dX2_seek_23 ?_
    refine lv_icmp_gt (tgt := 30) hx hb dX2_seek_26 (by decide) (fun c_26 => ?_) (fun c_26 => ?_)
    · have c_26n := Int32.not_le.mpr c_26
      refine lv_aload_n hx hb dX2_seek_30 rfl (lv_at hl 0 rfl) ?_
      refine va_get (D := D) (ci := 2) (v := .ref xA) (C := RX2) (T := TX2) (N := 17) hx hb hts hinX2 hown hK hP 0 rfl rfl 5 (by decide) hw28 (fun _ h9 => h9) rfl dX2_seek_31 ?_
      refine lv_iload_n hx hb dX2_seek_34 rfl (lv_at hl 1 rfl) ?_
      refine rd_ald (q0 := 5) (t0 := 0) (j := i) (v := aA i) hx hb hK hP rfl rfl (rfl) (by omega) (by decide) (rfl) dX2_seek_35 ?_
      refine lv_iload_n hx hb dX2_seek_36 rfl (lv_at hl 2 rfl) ?_
      refine lv_iload_n hx hb dX2_seek_37 rfl (lv_at hl 1 rfl) ?_
      refine lv_iconst (v := 4) hx hb dX2_seek_38 (by decide) ?_
      refine lv_imul hx hb dX2_seek_39 ?_
      refine lv_asi (y := nI (i * 4)) (pk_mul i 4) ?_
      refine lv_iushr hx hb dX2_seek_40 rfl ?_
      refine lv_iconst (v := (-1)) hx hb dX2_seek_41 (by decide) ?_
      refine lv_ixor hx hb dX2_seek_42 ?_
      refine lv_iand hx hb dX2_seek_43 ?_
      refine lv_asi (y := skFr aA i blk) rfl ?_
      refine lv_istore (lv' := [(4, .int (skFr aA i blk)), (0, .ref op), (1, .int (nI i)), (2, .int blk), (3, .int sc)]) hx hb dX2_seek_44 hl (by decide) rfl (fun ls hl => ?_)
      refine lv_iconst (v := 0) hx hb dX2_seek_46 (by decide) ?_
      refine lv_istore (lv' := [(5, .int 0), (4, .int (skFr aA i blk)), (0, .ref op), (1, .int (nI i)), (2, .int blk), (3, .int sc)]) hx hb dX2_seek_47 hl (by decide) rfl (fun ls hl => ?_)
      suffices loop49 : ∀ (k49 k : Nat) (kF1 : Int32) (aF1 : Nat → Int32) (aR1 : Nat → Int32) (H : Heap) (locs : List Loc) (ls : Array Slot), k ≤ 4 → 4 + 1 ≤ k + k49 → (skM aC aA aM aG aT aH kS (d + 1) i blk sc (kF, aF, aR) = skLw (fun b s9 z => skM aC aA aM aG aT aH kS d (i + 1) b s9 z) aC aG kS (aT i) i (skFr aA i blk) blk sc (aM i) k (kF1, aF1, aR1)) → va_P D vwCl (PlW op xO xW xN xC xA xM xG xT xH xR xF xB xX ob oc cI cZ (nI n) aO aW aN aC aA kS aM aG aT aH aR1 aF1 kF1 aB kT aX (nI n) f) H → va_D (wr_in (PlW op xO xW xN xC xA xM xG xT xH xR xF xB xX ob oc cI cZ (nI n) aO aW aN aC aA kS aM aG aT aH aR aF kF aB kT aX (nI n) f)) (PlW op xO xW xN xC xA xM xG xT xH xR xF xB xX ob oc cI cZ (nI n) aO aW aN aC aA kS aM aG aT aH aR1 aF1 kF1 aB kT aX (nI n) f) → va_S (wr_in (PlW op xO xW xN xC xA xM xG xT xH xR xF xB xX ob oc cI cZ (nI n) aO aW aN aC aA kS aM aG aT aH aR aF kF aB kT aX (nI n) f)) s.heap H locs → lv_has ls 8 [(0, .ref op), (1, .int (nI i)), (2, .int blk), (3, .int sc), (4, .int (skFr aA i blk)), (5, .int (nI k))] → wr_W p l e wsX2_seek ({ frames := d + 1 + 2, cells := 0, slots := 0, locals := 27 * (d + 1) + 81 } : Room) s m [.ref op, .int (nI i), .int blk, .int sc] below meth c D (PlW op xO xW xN xC xA xM xG xT xH xR xF xB xX ob oc cI cZ (nI n) aO aW aN aC aA kS aM aG aT aH aR aF kF aB kT aX (nI n) f) (fun v w9 => v = none ∧ w9 = PlW op xO xW xN xC xA xM xG xT xH xR xF xB xX ob oc cI cZ (nI n) aO aW aN aC aA kS aM aG aT aH ((skM aC aA aM aG aT aH kS (d + 1) i blk sc (kF, aF, aR)).2.2) ((skM aC aA aM aG aT aH kS (d + 1) i blk sc (kF, aF, aR)).2.1) ((skM aC aA aM aG aT aH kS (d + 1) i blk sc (kF, aF, aR)).1) aB kT aX (nI n) f) H locs (F0 m 49 ls []) from
        loop49 (4 + 1) 0 kF aF aR H locs ls (by omega) (by omega) (by rw [skM]; exact if_neg c_26n) hP hD hS (lv_sub hl [2, 3, 4, 5, 1, 0] rfl)
      intro k49
      induction k49 with
      | zero => intro k kF1 aF1 aR1 H locs ls h1 h2; exact absurd h2 (by omega)
      | succ k49 ih49 =>
        intro k kF1 aF1 aR1 H locs ls hle49 hlt49 inv49 hP hD hS hl
        refine lv_iload hx hb dX2_seek_49 (lv_at hl 5 rfl) ?_
        refine lv_iconst (v := 4) hx hb dX2_seek_51 (by decide) ?_
        refine rd_icmp_ge_n (a := k) (b := 4) (tgt := 144) (by omega) (by omega) hx hb dX2_seek_52 (by decide) (fun c_52 => ?_) (fun c_52 => ?_)
        · have c_52n := Nat.not_lt.mpr c_52
          refine lv_aload_n hx hb dX2_seek_144 rfl (lv_at hl 0 rfl) ?_
          refine va_get (D := D) (ci := 2) (v := .ref xM) (C := RX2) (T := TX2) (N := 17) hx hb hts hinX2 hown hK hP 0 rfl rfl 7 (by decide) hw34 (fun _ h9 => h9) rfl dX2_seek_145 ?_
          refine lv_iload_n hx hb dX2_seek_148 rfl (lv_at hl 1 rfl) ?_
          refine rd_zald (q0 := 6) (t0 := 1) (j := i) (v := aM i) hx hb hK hP rfl rfl (rfl) (by omega) (by decide) (rfl) dX2_seek_149 ?_
          refine lv_if_eq (tgt := 169) hx hb dX2_seek_150 (by decide) (fun c_150 => ?_) (fun c_150 => ?_)
          · exact wr_vret hx hb hr hlocks hP hS rfl dX2_seek_169 (by exact ⟨rfl, by rw [show skM aC aA aM aG aT aH kS (d + 1) i blk sc (kF, aF, aR) = (kF1, aF1, aR1) from by rw [inv49, skLw_end c_52, if_pos c_150]]⟩)
          · refine lv_aload_n hx hb dX2_seek_153 rfl (lv_at hl 0 rfl) ?_
            refine va_get (D := D) (ci := 2) (v := .ref xR) (C := RX2) (T := TX2) (N := 17) hx hb hts hinX2 hown hK hP 0 rfl rfl 11 (by decide) hw47 (fun _ h9 => h9) rfl dX2_seek_154 ?_
            refine lv_iload_n hx hb dX2_seek_157 rfl (lv_at hl 1 rfl) ?_
            refine lv_iconst (v := (-1)) hx hb dX2_seek_158 (by decide) ?_
            refine wr_ast (q0 := 10) (t0 := 0) (j := i) hx hb hK hP hD hS rfl rfl (rfl) (by omega) (by decide) dX2_seek_159 (fun H locs hP hD hS => ?_)
            obtain ⟨aR_159, eaR_159⟩ : ∃ zz9 : Nat → Int32, zz9 = upd aR1 i (-1) := ⟨_, rfl⟩
            rw [← eaR_159] at hP hD
            have hP : va_P D vwCl (PlW op xO xW xN xC xA xM xG xT xH xR xF xB xX ob oc cI cZ (nI n) aO aW aN aC aA kS aM aG aT aH aR_159 aF1 kF1 aB kT aX (nI n) f) H := hP
            have hD : va_D (wr_in (PlW op xO xW xN xC xA xM xG xT xH xR xF xB xX ob oc cI cZ (nI n) aO aW aN aC aA kS aM aG aT aH aR aF kF aB kT aX (nI n) f)) (PlW op xO xW xN xC xA xM xG xT xH xR xF xB xX ob oc cI cZ (nI n) aO aW aN aC aA kS aM aG aT aH aR_159 aF1 kF1 aB kT aX (nI n) f) := hD
            refine lv_aload_n hx hb dX2_seek_160 rfl (lv_at hl 0 rfl) ?_
            refine lv_iload_n hx hb dX2_seek_161 rfl (lv_at hl 1 rfl) ?_
            refine lv_iconst (v := 1) hx hb dX2_seek_162 (by decide) ?_
            refine lv_iadd hx hb dX2_seek_163 ?_
            refine lv_asi (y := nI (i + 1)) (nI_add i 1) ?_
            refine lv_iload_n hx hb dX2_seek_164 rfl (lv_at hl 2 rfl) ?_
            refine lv_iload_n hx hb dX2_seek_165 rfl (lv_at hl 3 rfl) ?_
            refine wr_callS (As := [.ref op, .int (nI (i + 1)), .int blk, .int sc]) (rest := []) ⟨hx, hb, hml, hown, hts⟩ (ihd (i + 1) (by omega) blk sc kF1 aF1 aR_159) (va_cwS 4 hts gX2_seek_X2_seek rfl rfl rfl (by decide +kernel) ⟨by show d + 2 + 1 ≤ d + 1 + 2; omega, by show 8 + (8 + 11) + (27 * d + 81) ≤ 27 * (d + 1) + 81; omega⟩) hK hN hZ hP hD hS [0, 1, 2, 3, 4, 5, 6, 7, 8, 9, 10, 11, 12, 13, 14, 15] [0, 1] rfl (by decide) rfl rfl hl.1 rfl (Nat.le_of_ble_eq_true rfl) ⟨Nat.zero_le _, Nat.zero_le _⟩ dX2_seek_166 (fun v9 w9 H locs hp9 hP hD hS => ?_)
            obtain ⟨rfl, rfl⟩ := hp9
            obtain ⟨z166, ez166⟩ : ∃ z9 : St3, z9 = skM aC aA aM aG aT aH kS d (i + 1) blk sc (kF1, aF1, aR_159) := ⟨_, rfl⟩
            rw [← ez166] at hP hD
            have hP : va_P D vwCl (PlW op xO xW xN xC xA xM xG xT xH xR xF xB xX ob oc cI cZ (nI n) aO aW aN aC aA kS aM aG aT aH z166.2.2 z166.2.1 z166.1 aB kT aX (nI n) f) H := hP
            have hD : va_D (wr_in (PlW op xO xW xN xC xA xM xG xT xH xR xF xB xX ob oc cI cZ (nI n) aO aW aN aC aA kS aM aG aT aH aR aF kF aB kT aX (nI n) f)) (PlW op xO xW xN xC xA xM xG xT xH xR xF xB xX ob oc cI cZ (nI n) aO aW aN aC aA kS aM aG aT aH z166.2.2 z166.2.1 z166.1 aB kT aX (nI n) f) := hD
            refine W.eq (g2 := F0 m 169 ls []) rfl ?_
            exact wr_vret hx hb hr hlocks hP hS rfl dX2_seek_169 (by subst ez166; subst eaR_159; exact ⟨rfl, by rw [show skM aC aA aM aG aT aH kS (d + 1) i blk sc (kF, aF, aR) = _ from by rw [inv49, skLw_end c_52, if_neg c_150]]⟩)
        · have c_52n := Nat.not_le.mpr c_52
          refine lv_iload hx hb dX2_seek_55 (lv_at hl 4 rfl) ?_
          refine lv_iload hx hb dX2_seek_57 (lv_at hl 5 rfl) ?_
          refine rd_callSN (As := [.int (skFr aA i blk), .int (nI k)]) (rest := []) ⟨hx, hb, hml, hown, hts⟩ (c_X4_hasBit l D (skFr aA i blk) (nI k)) ⟨va_cnB 2 hts gX2_seek_X4_hasBit_n79 rfl rfl rfl hN.2 (hts (.initialized RX4) (by decide +kernel)) (by decide +kernel) ⟨by show 0 + 1 ≤ d + 1 + 2; omega, by show 8 + (2 + 11) + (0) ≤ 27 * (d + 1) + 81; omega⟩, hts (.static yX4_hasBit) (by decide +kernel), trivial⟩ hK hN hP rfl hl.1 rfl (Nat.le_of_ble_eq_true rfl) ⟨Nat.zero_le _, Nat.zero_le _⟩ dX2_seek_59 ?_
          refine rd_ifeq_b (tgt := 138) hx hb dX2_seek_62 (by decide) (fun c_62 => ?_) (fun c_62 => ?_)
          · refine lv_iinc (v := nI (k + 1)) (lv' := [(5, .int (nI (k + 1))), (0, .ref op), (1, .int (nI i)), (2, .int blk), (3, .int sc), (4, .int (skFr aA i blk))]) hx hb dX2_seek_138 hl (k := 5) rfl (nI_add k 1) (by decide) rfl (fun ls hl => ?_)
            refine lv_goto (tgt := 49) hx hb dX2_seek_141 (by decide) ?_
            exact ih49 (k + 1) kF1 aF1 aR1 H locs ls (by omega) (by omega) (by rw [inv49, skLw_step c_52, if_neg (by simp [c_62])]) hP hD hS (lv_sub hl [1, 2, 3, 4, 5, 0] rfl)
          · refine lv_iload_n hx hb dX2_seek_65 rfl (lv_at hl 1 rfl) ?_
            refine lv_iconst (v := 4) hx hb dX2_seek_66 (by decide) ?_
            refine lv_imul hx hb dX2_seek_67 ?_
            refine lv_asi (y := nI (i * 4)) (pk_mul i 4) ?_
            refine lv_iload hx hb dX2_seek_68 (lv_at hl 5 rfl) ?_
            refine lv_iadd hx hb dX2_seek_70 ?_
            refine lv_asi (y := nI ((i * 4) + k)) (nI_add (i * 4) k) ?_
            refine lv_istore (lv' := [(6, .int (nI ((i * 4) + k))), (0, .ref op), (1, .int (nI i)), (2, .int blk), (3, .int sc), (4, .int (skFr aA i blk)), (5, .int (nI k))]) hx hb dX2_seek_71 hl (by decide) rfl (fun ls hl => ?_)
            refine lv_iload_n hx hb dX2_seek_73 rfl (lv_at hl 3 rfl) ?_
            refine lv_aload_n hx hb dX2_seek_74 rfl (lv_at hl 1 rfl) ?_
            refine va_get (D := D) (ci := 2) (v := .ref xC) (C := RX2) (T := TX2) (N := 17) hx hb hts hinX2 hown hK hP 0 rfl rfl 4 (by decide) hw25 (fun _ h9 => h9) rfl dX2_seek_75 ?_
            refine lv_iload hx hb dX2_seek_78 (lv_at hl 0 rfl) ?_
            refine rd_ald (q0 := 4) (t0 := 0) (j := (i * 4) + k) (v := aC ((i * 4) + k)) hx hb hK hP rfl rfl (rfl) (by omega) (by decide) (rfl) dX2_seek_80 ?_
            refine lv_aload_n hx hb dX2_seek_81 rfl (lv_at hl 1 rfl) ?_
            refine va_get (D := D) (ci := 2) (v := .int kS) (C := RX2) (T := TX2) (N := 17) hx hb hts hinX2 hown hK hP 0 rfl rfl 6 (by decide) hw31 (fun _ h9 => h9) rfl dX2_seek_82 ?_
            refine lv_iand hx hb dX2_seek_85 ?_
            refine lv_ior hx hb dX2_seek_86 ?_
            refine lv_istore (lv' := [(7, .int (blk ||| ((aC ((i * 4) + k)) &&& kS))), (6, .int (nI ((i * 4) + k))), (0, .ref op), (1, .int (nI i)), (2, .int blk), (3, .int sc), (4, .int (skFr aA i blk)), (5, .int (nI k))]) hx hb dX2_seek_87 hl (by decide) rfl (fun ls hl => ?_)
            refine lv_aload_n hx hb dX2_seek_89 rfl (lv_at hl 2 rfl) ?_
            refine va_get (D := D) (ci := 2) (v := .ref xR) (C := RX2) (T := TX2) (N := 17) hx hb hts hinX2 hown hK hP 0 rfl rfl 11 (by decide) hw47 (fun _ h9 => h9) rfl dX2_seek_90 ?_
            refine lv_iload_n hx hb dX2_seek_93 rfl (lv_at hl 3 rfl) ?_
            refine lv_iload hx hb dX2_seek_94 (lv_at hl 7 rfl) ?_
            refine wr_ast (q0 := 10) (t0 := 0) (j := i) hx hb hK hP hD hS rfl rfl (rfl) (by omega) (by decide) dX2_seek_96 (fun H locs hP hD hS => ?_)
            obtain ⟨aR_96, eaR_96⟩ : ∃ zz9 : Nat → Int32, zz9 = upd aR1 i (nI k) := ⟨_, rfl⟩
            rw [← eaR_96] at hP hD
            have hP : va_P D vwCl (PlW op xO xW xN xC xA xM xG xT xH xR xF xB xX ob oc cI cZ (nI n) aO aW aN aC aA kS aM aG aT aH aR_96 aF1 kF1 aB kT aX (nI n) f) H := hP
            have hD : va_D (wr_in (PlW op xO xW xN xC xA xM xG xT xH xR xF xB xX ob oc cI cZ (nI n) aO aW aN aC aA kS aM aG aT aH aR aF kF aB kT aX (nI n) f)) (PlW op xO xW xN xC xA xM xG xT xH xR xF xB xX ob oc cI cZ (nI n) aO aW aN aC aA kS aM aG aT aH aR_96 aF1 kF1 aB kT aX (nI n) f) := hD
            refine lv_aload_n hx hb dX2_seek_97 rfl (lv_at hl 2 rfl) ?_
            refine lv_iload_n hx hb dX2_seek_98 rfl (lv_at hl 3 rfl) ?_
            refine lv_iconst (v := 1) hx hb dX2_seek_99 (by decide) ?_
            refine lv_iadd hx hb dX2_seek_100 ?_
            refine lv_asi (y := nI (i + 1)) (nI_add i 1) ?_
            refine lv_iload hx hb dX2_seek_101 (lv_at hl 0 rfl) ?_
            refine lv_iload_n hx hb dX2_seek_103 rfl (lv_at hl 5 rfl) ?_
            refine lv_aload_n hx hb dX2_seek_104 rfl (lv_at hl 2 rfl) ?_
            refine va_get (D := D) (ci := 2) (v := .ref xG) (C := RX2) (T := TX2) (N := 17) hx hb hts hinX2 hown hK hP 0 rfl rfl 8 (by decide) hw38 (fun _ h9 => h9) rfl dX2_seek_105 ?_
            refine lv_iload hx hb dX2_seek_108 (lv_at hl 1 rfl) ?_
            refine rd_ald (q0 := 7) (t0 := 0) (j := (i * 4) + k) (v := aG ((i * 4) + k)) hx hb hK hP rfl rfl (rfl) (by omega) (by decide) (rfl) dX2_seek_110 ?_
            refine lv_iadd hx hb dX2_seek_111 ?_
            refine wr_callS (As := [.ref op, .int (nI (i + 1)), .int (blk ||| ((aC ((i * 4) + k)) &&& kS)), .int (sc + (aG ((i * 4) + k)))]) (rest := []) ⟨hx, hb, hml, hown, hts⟩ (ihd (i + 1) (by omega) (blk ||| ((aC ((i * 4) + k)) &&& kS)) (sc + (aG ((i * 4) + k))) kF1 aF1 aR_96) (va_cwS 4 hts gX2_seek_X2_seek rfl rfl rfl (by decide +kernel) ⟨by show d + 2 + 1 ≤ d + 1 + 2; omega, by show 8 + (8 + 11) + (27 * d + 81) ≤ 27 * (d + 1) + 81; omega⟩) hK hN hZ hP hD hS [0, 1, 2, 3, 4, 5, 6, 7, 8, 9, 10, 11, 12, 13, 14, 15] [0, 1] rfl (by decide) rfl rfl hl.1 rfl (Nat.le_of_ble_eq_true rfl) ⟨Nat.zero_le _, Nat.zero_le _⟩ dX2_seek_112 (fun v9 w9 H locs hp9 hP hD hS => ?_)
            obtain ⟨rfl, rfl⟩ := hp9
            obtain ⟨z112, ez112⟩ : ∃ z9 : St3, z9 = skM aC aA aM aG aT aH kS d (i + 1) (blk ||| ((aC ((i * 4) + k)) &&& kS)) (sc + (aG ((i * 4) + k))) (kF1, aF1, aR_96) := ⟨_, rfl⟩
            rw [← ez112] at hP hD
            have hP : va_P D vwCl (PlW op xO xW xN xC xA xM xG xT xH xR xF xB xX ob oc cI cZ (nI n) aO aW aN aC aA kS aM aG aT aH z112.2.2 z112.2.1 z112.1 aB kT aX (nI n) f) H := hP
            have hD : va_D (wr_in (PlW op xO xW xN xC xA xM xG xT xH xR xF xB xX ob oc cI cZ (nI n) aO aW aN aC aA kS aM aG aT aH aR aF kF aB kT aX (nI n) f)) (PlW op xO xW xN xC xA xM xG xT xH xR xF xB xX ob oc cI cZ (nI n) aO aW aN aC aA kS aM aG aT aH z112.2.2 z112.2.1 z112.1 aB kT aX (nI n) f) := hD
            refine W.eq (g2 := F0 m 115 ls []) rfl ?_
            refine lv_iload hx hb dX2_seek_115 (lv_at hl 0 rfl) ?_
            refine lv_iload_n hx hb dX2_seek_117 rfl (lv_at hl 4 rfl) ?_
            refine lv_icmp_ne (tgt := 138) hx hb dX2_seek_118 (by decide) (fun c_118 => ?_) (fun c_118 => ?_)
            · refine lv_iinc (v := nI (k + 1)) (lv' := [(5, .int (nI (k + 1))), (7, .int (blk ||| ((aC ((i * 4) + k)) &&& kS))), (6, .int (nI ((i * 4) + k))), (0, .ref op), (1, .int (nI i)), (2, .int blk), (3, .int sc), (4, .int (skFr aA i blk))]) hx hb dX2_seek_138 hl (k := 7) rfl (nI_add k 1) (by decide) rfl (fun ls hl => ?_)
              refine lv_goto (tgt := 49) hx hb dX2_seek_141 (by decide) ?_
              exact ih49 (k + 1) z112.1 z112.2.1 z112.2.2 H locs ls (by omega) (by omega) (by subst ez112; subst eaR_96; rw [inv49, skLw_step c_52, if_pos c_62, if_neg (fun q => c_118 q.1)]) hP hD hS (lv_sub hl [3, 4, 5, 6, 7, 0] rfl)
            · refine lv_aload_n hx hb dX2_seek_121 rfl (lv_at hl 2 rfl) ?_
              refine va_get (D := D) (ci := 2) (v := .ref xG) (C := RX2) (T := TX2) (N := 17) hx hb hts hinX2 hown hK hP 0 rfl rfl 8 (by decide) hw38 (fun _ h9 => h9) rfl dX2_seek_122 ?_
              refine lv_iload hx hb dX2_seek_125 (lv_at hl 1 rfl) ?_
              refine rd_ald (q0 := 7) (t0 := 0) (j := (i * 4) + k) (v := aG ((i * 4) + k)) hx hb hK hP rfl rfl (rfl) (by omega) (by decide) (rfl) dX2_seek_127 ?_
              refine lv_aload_n hx hb dX2_seek_128 rfl (lv_at hl 2 rfl) ?_
              refine va_get (D := D) (ci := 2) (v := .ref xT) (C := RX2) (T := TX2) (N := 17) hx hb hts hinX2 hown hK hP 0 rfl rfl 9 (by decide) hw41 (fun _ h9 => h9) rfl dX2_seek_129 ?_
              refine lv_iload_n hx hb dX2_seek_132 rfl (lv_at hl 3 rfl) ?_
              refine rd_ald (q0 := 8) (t0 := 0) (j := i) (v := aT i) hx hb hK hP rfl rfl (rfl) (by omega) (by decide) (rfl) dX2_seek_133 ?_
              refine lv_icmp_ne (tgt := 138) hx hb dX2_seek_134 (by decide) (fun c_134 => ?_) (fun c_134 => ?_)
              · refine lv_iinc (v := nI (k + 1)) (lv' := [(5, .int (nI (k + 1))), (7, .int (blk ||| ((aC ((i * 4) + k)) &&& kS))), (6, .int (nI ((i * 4) + k))), (0, .ref op), (1, .int (nI i)), (2, .int blk), (3, .int sc), (4, .int (skFr aA i blk))]) hx hb dX2_seek_138 hl (k := 7) rfl (nI_add k 1) (by decide) rfl (fun ls hl => ?_)
                refine lv_goto (tgt := 49) hx hb dX2_seek_141 (by decide) ?_
                exact ih49 (k + 1) z112.1 z112.2.1 z112.2.2 H locs ls (by omega) (by omega) (by subst ez112; subst eaR_96; rw [inv49, skLw_step c_52, if_pos c_62, if_neg (fun q => c_134 q.2)]) hP hD hS (lv_sub hl [3, 4, 5, 6, 7, 0] rfl)
              · exact wr_vret hx hb hr hlocks hP hS rfl dX2_seek_137 (by subst ez112; subst eaR_96; exact ⟨rfl, by rw [show skM aC aA aM aG aT aH kS (d + 1) i blk sc (kF, aF, aR) = _ from by rw [inv49, skLw_step c_52, if_pos c_62, if_pos ⟨c_118, c_134⟩]]⟩)
    · have c_26n := Int32.not_lt.mp c_26
      exact wr_vret hx hb hr hlocks hP hS rfl dX2_seek_29 (by exact ⟨rfl, by rw [show skM aC aA aM aG aT aH kS (d + 1) i blk sc (kF, aF, aR) = (kF, aF, aR) from by rw [skM]; exact if_pos c_26n]⟩)
set_option maxHeartbeats 4000000 in
set_option maxRecDepth 100000 in
theorem c_X2_tally (l : Launch) (D : va_G) {op xO xW xN xC xA xM xG xT xH xR xF xB xX ob oc : Nat} {cI cZ : ClassId} {n : Nat} (hn8 : n ≤ 8) {kS kF kT : Int32} {aO aW aN aC aA aM aG aT aH aR aF aB aX f : Nat → Int32} : ∀ (d i : Nat), i + d = n → ∀ (blk : Int32), wr_M l yX2_tally wsX2_tally ({ frames := d + 2, cells := 0, slots := 0, locals := 27 * d + 81 } : Room) D (PlW op xO xW xN xC xA xM xG xT xH xR xF xB xX ob oc cI cZ (nI n) aO aW aN aC aA kS aM aG aT aH aR aF kF aB kT aX (nI n) f) [(cI, .int), (cZ, .boolean)] [.ref op, .int (nI i), .int blk] (fun v w9 => v = some (.int (tlM aO aC d i blk)) ∧ w9 = PlW op xO xW xN xC xA xM xG xT xH xR xF xB xX ob oc cI cZ (nI n) aO aW aN aC aA kS aM aG aT aH aR aF kF aB kT aX (nI n) f) := by
  intro d
  induction d with
  | zero =>
    intro i hid blk
    refine wr_of (cc := cX2_tally) (maxL := 8) (ret := some .int) (by decide) rfl (Nat.le_of_ble_eq_true rfl) ?_
    intro p e s m below meth c hx hb hr hml hts hown hlocks hP hK hN hZ hD hS ls hl
    have hown : s.vm.findClass RX2 = some m.cls := hown
    have hl : lv_has ls 8 [(0, .ref op), (1, .int (nI i)), (2, .int blk)] := hl
    have hinX2 : ∀ w ∈ u_ws RX2 TX2 17, w ∈ wsX2_tally := by decide +kernel
    have hw9 := hts (.fieldLink RX2 9 "CornerLabels$Plans" "points" "I") (by decide +kernel)
    suffices body : ∀ (H : Heap) (locs : List Loc), va_P D vwCl (PlW op xO xW xN xC xA xM xG xT xH xR xF xB xX ob oc cI cZ (nI n) aO aW aN aC aA kS aM aG aT aH aR aF kF aB kT aX (nI n) f) H → va_D (wr_in (PlW op xO xW xN xC xA xM xG xT xH xR xF xB xX ob oc cI cZ (nI n) aO aW aN aC aA kS aM aG aT aH aR aF kF aB kT aX (nI n) f)) (PlW op xO xW xN xC xA xM xG xT xH xR xF xB xX ob oc cI cZ (nI n) aO aW aN aC aA kS aM aG aT aH aR aF kF aB kT aX (nI n) f) → va_S (wr_in (PlW op xO xW xN xC xA xM xG xT xH xR xF xB xX ob oc cI cZ (nI n) aO aW aN aC aA kS aM aG aT aH aR aF kF aB kT aX (nI n) f)) s.heap H locs → wr_W p l e wsX2_tally ({ frames := 0 + 2, cells := 0, slots := 0, locals := 27 * 0 + 81 } : Room) s m [.ref op, .int (nI i), .int blk] below meth c D (PlW op xO xW xN xC xA xM xG xT xH xR xF xB xX ob oc cI cZ (nI n) aO aW aN aC aA kS aM aG aT aH aR aF kF aB kT aX (nI n) f) (fun v w9 => v = some (.int (tlM aO aC 0 i blk)) ∧ w9 = PlW op xO xW xN xC xA xM xG xT xH xR xF xB xX ob oc cI cZ (nI n) aO aW aN aC aA kS aM aG aT aH aR aF kF aB kT aX (nI n) f) H locs (F0 m 0 ls []) from body _ _ hP hD hS
    clear hP hD hS
    intro H locs hP hD hS
    refine lv_iload_n hx hb dX2_tally_0 rfl (lv_at hl 1 rfl) ?_
    refine lv_aload_n hx hb dX2_tally_1 rfl (lv_at hl 0 rfl) ?_
    refine va_get (D := D) (ci := 2) (v := .int (nI n)) (C := RX2) (T := TX2) (N := 17) hx hb hts hinX2 hown hK hP 0 rfl rfl 0 (by decide) hw9 (fun _ h9 => h9) rfl dX2_tally_2 ?_
    refine rd_icmp_lt_n (a := i) (b := n) (tgt := 10) (by omega) (by omega) hx hb dX2_tally_5 (by decide) (fun c_5 => ?_) (fun c_5 => ?_)
    · exact absurd c_5 (by omega)
    refine lv_iconst (v := 1) hx hb dX2_tally_8 (by decide) ?_
    exact wr_iret hx hb hr hlocks hP hS rfl dX2_tally_9 (by exact ⟨rfl, rfl⟩)
  | succ d ihd =>
    intro i hid blk
    refine wr_of (cc := cX2_tally) (maxL := 8) (ret := some .int) (by decide) rfl (Nat.le_of_ble_eq_true rfl) ?_
    intro p e s m below meth c hx hb hr hml hts hown hlocks hP hK hN hZ hD hS ls hl
    have hown : s.vm.findClass RX2 = some m.cls := hown
    have hl : lv_has ls 8 [(0, .ref op), (1, .int (nI i)), (2, .int blk)] := hl
    have hinX2 : ∀ w ∈ u_ws RX2 TX2 17, w ∈ wsX2_tally := by decide +kernel
    have hw9 := hts (.fieldLink RX2 9 "CornerLabels$Plans" "points" "I") (by decide +kernel)
    have hw15 := hts (.fieldLink RX2 15 "CornerLabels$Plans" "open" "[I") (by decide +kernel)
    have hw25 := hts (.fieldLink RX2 25 "CornerLabels$Plans" "clashing" "[I") (by decide +kernel)
    suffices body : ∀ (H : Heap) (locs : List Loc), va_P D vwCl (PlW op xO xW xN xC xA xM xG xT xH xR xF xB xX ob oc cI cZ (nI n) aO aW aN aC aA kS aM aG aT aH aR aF kF aB kT aX (nI n) f) H → va_D (wr_in (PlW op xO xW xN xC xA xM xG xT xH xR xF xB xX ob oc cI cZ (nI n) aO aW aN aC aA kS aM aG aT aH aR aF kF aB kT aX (nI n) f)) (PlW op xO xW xN xC xA xM xG xT xH xR xF xB xX ob oc cI cZ (nI n) aO aW aN aC aA kS aM aG aT aH aR aF kF aB kT aX (nI n) f) → va_S (wr_in (PlW op xO xW xN xC xA xM xG xT xH xR xF xB xX ob oc cI cZ (nI n) aO aW aN aC aA kS aM aG aT aH aR aF kF aB kT aX (nI n) f)) s.heap H locs → wr_W p l e wsX2_tally ({ frames := d + 1 + 2, cells := 0, slots := 0, locals := 27 * (d + 1) + 81 } : Room) s m [.ref op, .int (nI i), .int blk] below meth c D (PlW op xO xW xN xC xA xM xG xT xH xR xF xB xX ob oc cI cZ (nI n) aO aW aN aC aA kS aM aG aT aH aR aF kF aB kT aX (nI n) f) (fun v w9 => v = some (.int (tlM aO aC (d + 1) i blk)) ∧ w9 = PlW op xO xW xN xC xA xM xG xT xH xR xF xB xX ob oc cI cZ (nI n) aO aW aN aC aA kS aM aG aT aH aR aF kF aB kT aX (nI n) f) H locs (F0 m 0 ls []) from body _ _ hP hD hS
    clear hP hD hS
    intro H locs hP hD hS
    refine lv_iload_n hx hb dX2_tally_0 rfl (lv_at hl 1 rfl) ?_
    refine lv_aload_n hx hb dX2_tally_1 rfl (lv_at hl 0 rfl) ?_
    refine va_get (D := D) (ci := 2) (v := .int (nI n)) (C := RX2) (T := TX2) (N := 17) hx hb hts hinX2 hown hK hP 0 rfl rfl 0 (by decide) hw9 (fun _ h9 => h9) rfl dX2_tally_2 ?_
    refine rd_icmp_lt_n (a := i) (b := n) (tgt := 10) (by omega) (by omega) hx hb dX2_tally_5 (by decide) (fun c_5 => ?_) (fun c_5 => ?_)
    rotate_left
    · exact absurd c_5 (by omega)
    refine lv_aload_n hx hb dX2_tally_10 rfl (lv_at hl 0 rfl) ?_
    refine va_get (D := D) (ci := 2) (v := .ref xO) (C := RX2) (T := TX2) (N := 17) hx hb hts hinX2 hown hK hP 0 rfl rfl 1 (by decide) hw15 (fun _ h9 => h9) rfl dX2_tally_11 ?_
    refine lv_iload_n hx hb dX2_tally_14 rfl (lv_at hl 1 rfl) ?_
    refine rd_ald (q0 := 1) (t0 := 0) (j := i) (v := aO i) hx hb hK hP rfl rfl (rfl) (by omega) (by decide) (rfl) dX2_tally_15 ?_
    refine lv_if_ne (tgt := 28) hx hb dX2_tally_16 (by decide) (fun c_16 => ?_) (fun c_16 => ?_)
    · refine lv_iconst (v := 0) hx hb dX2_tally_28 (by decide) ?_
      refine lv_istore_n (lv' := [(3, .int 0), (0, .ref op), (1, .int (nI i)), (2, .int blk)]) hx hb dX2_tally_29 rfl hl (by decide) rfl (fun ls hl => ?_)
      refine lv_iconst (v := 0) hx hb dX2_tally_30 (by decide) ?_
      refine lv_istore (lv' := [(4, .int 0), (3, .int 0), (0, .ref op), (1, .int (nI i)), (2, .int blk)]) hx hb dX2_tally_31 hl (by decide) rfl (fun ls hl => ?_)
      refine lv_aload_n hx hb dX2_tally_33 rfl (lv_at hl 2 rfl) ?_
      refine va_get (D := D) (ci := 2) (v := .ref xO) (C := RX2) (T := TX2) (N := 17) hx hb hts hinX2 hown hK hP 0 rfl rfl 1 (by decide) hw15 (fun _ h9 => h9) rfl dX2_tally_34 ?_
      refine lv_iload_n hx hb dX2_tally_37 rfl (lv_at hl 3 rfl) ?_
      refine rd_ald (q0 := 1) (t0 := 0) (j := i) (v := aO i) hx hb hK hP rfl rfl (rfl) (by omega) (by decide) (rfl) dX2_tally_38 ?_
      refine lv_iload_n hx hb dX2_tally_39 rfl (lv_at hl 4 rfl) ?_
      refine lv_iload_n hx hb dX2_tally_40 rfl (lv_at hl 3 rfl) ?_
      refine lv_iconst (v := 4) hx hb dX2_tally_41 (by decide) ?_
      refine lv_imul hx hb dX2_tally_42 ?_
      refine lv_asi (y := nI (i * 4)) (pk_mul i 4) ?_
      refine lv_iushr hx hb dX2_tally_43 rfl ?_
      refine lv_iconst (v := (-1)) hx hb dX2_tally_44 (by decide) ?_
      refine lv_ixor hx hb dX2_tally_45 ?_
      refine lv_iand hx hb dX2_tally_46 ?_
      refine lv_asi (y := skFr aO i blk) rfl ?_
      refine lv_istore (lv' := [(5, .int (skFr aO i blk)), (4, .int 0), (3, .int 0), (0, .ref op), (1, .int (nI i)), (2, .int blk)]) hx hb dX2_tally_47 hl (by decide) rfl (fun ls hl => ?_)
      refine lv_iconst (v := 0) hx hb dX2_tally_49 (by decide) ?_
      refine lv_istore (lv' := [(6, .int 0), (5, .int (skFr aO i blk)), (4, .int 0), (3, .int 0), (0, .ref op), (1, .int (nI i)), (2, .int blk)]) hx hb dX2_tally_50 hl (by decide) rfl (fun ls hl => ?_)
      suffices loop52 : ∀ (k52 k : Nat) (a : Int32) (b2 : Int32) (H : Heap) (locs : List Loc) (ls : Array Slot), k ≤ 4 → 4 + 1 ≤ k + k52 → (tlW (fun b => tlM aO aC d (i + 1) b) aC i (skFr aO i blk) blk 0 (0, 0) = tlW (fun b => tlM aO aC d (i + 1) b) aC i (skFr aO i blk) blk k (a, b2)) → va_P D vwCl (PlW op xO xW xN xC xA xM xG xT xH xR xF xB xX ob oc cI cZ (nI n) aO aW aN aC aA kS aM aG aT aH aR aF kF aB kT aX (nI n) f) H → va_D (wr_in (PlW op xO xW xN xC xA xM xG xT xH xR xF xB xX ob oc cI cZ (nI n) aO aW aN aC aA kS aM aG aT aH aR aF kF aB kT aX (nI n) f)) (PlW op xO xW xN xC xA xM xG xT xH xR xF xB xX ob oc cI cZ (nI n) aO aW aN aC aA kS aM aG aT aH aR aF kF aB kT aX (nI n) f) → va_S (wr_in (PlW op xO xW xN xC xA xM xG xT xH xR xF xB xX ob oc cI cZ (nI n) aO aW aN aC aA kS aM aG aT aH aR aF kF aB kT aX (nI n) f)) s.heap H locs → lv_has ls 8 [(0, .ref op), (1, .int (nI i)), (2, .int blk), (3, .int a), (4, .int b2), (5, .int (skFr aO i blk)), (6, .int (nI k))] → wr_W p l e wsX2_tally ({ frames := d + 1 + 2, cells := 0, slots := 0, locals := 27 * (d + 1) + 81 } : Room) s m [.ref op, .int (nI i), .int blk] below meth c D (PlW op xO xW xN xC xA xM xG xT xH xR xF xB xX ob oc cI cZ (nI n) aO aW aN aC aA kS aM aG aT aH aR aF kF aB kT aX (nI n) f) (fun v w9 => v = some (.int (tlM aO aC (d + 1) i blk)) ∧ w9 = PlW op xO xW xN xC xA xM xG xT xH xR xF xB xX ob oc cI cZ (nI n) aO aW aN aC aA kS aM aG aT aH aR aF kF aB kT aX (nI n) f) H locs (F0 m 52 ls []) from
        loop52 (4 + 1) 0 0 0 H locs ls (by omega) (by omega) (by rfl) hP hD hS (lv_sub hl [4, 5, 6, 3, 2, 1, 0] rfl)
      intro k52
      induction k52 with
      | zero => intro k a b2 H locs ls h1 h2; exact absurd h2 (by omega)
      | succ k52 ih52 =>
        intro k a b2 H locs ls hle52 hlt52 inv52 hP hD hS hl
        refine lv_iload hx hb dX2_tally_52 (lv_at hl 6 rfl) ?_
        refine lv_iconst (v := 4) hx hb dX2_tally_54 (by decide) ?_
        refine rd_icmp_ge_n (a := k) (b := 4) (tgt := 113) (by omega) (by omega) hx hb dX2_tally_55 (by decide) (fun c_55 => ?_) (fun c_55 => ?_)
        · have c_55n := Nat.not_lt.mpr c_55
          refine lv_iload hx hb dX2_tally_113 (lv_at hl 4 rfl) ?_
          refine lv_if_le (tgt := 132) hx hb dX2_tally_115 (by decide) (fun c_115 => ?_) (fun c_115 => ?_)
          · have c_115n := Int32.not_lt.mpr c_115
            refine lv_iload_n hx hb dX2_tally_132 rfl (lv_at hl 3 rfl) ?_
            exact wr_iret hx hb hr hlocks hP hS rfl dX2_tally_133 (by exact ⟨by rw [tlM, if_neg c_16, inv52, tlW_end c_55, tlE]; simp [c_115, c_115n], rfl⟩)
          · have c_115n := Int32.not_le.mp c_115
            refine lv_iload_n hx hb dX2_tally_118 rfl (lv_at hl 3 rfl) ?_
            refine lv_iload hx hb dX2_tally_119 (lv_at hl 4 rfl) ?_
            refine lv_aload_n hx hb dX2_tally_121 rfl (lv_at hl 0 rfl) ?_
            refine lv_iload_n hx hb dX2_tally_122 rfl (lv_at hl 1 rfl) ?_
            refine lv_iconst (v := 1) hx hb dX2_tally_123 (by decide) ?_
            refine lv_iadd hx hb dX2_tally_124 ?_
            refine lv_asi (y := nI (i + 1)) (nI_add i 1) ?_
            refine lv_iload_n hx hb dX2_tally_125 rfl (lv_at hl 2 rfl) ?_
            refine wr_callS (As := [.ref op, .int (nI (i + 1)), .int blk]) (rest := [.int b2, .int a]) ⟨hx, hb, hml, hown, hts⟩ (ihd (i + 1) (by omega) blk) (va_cwS 3 hts gX2_tally_X2_tally rfl rfl rfl (by decide +kernel) ⟨by show d + 2 + 1 ≤ d + 1 + 2; omega, by show 8 + (8 + 11) + (27 * d + 81) ≤ 27 * (d + 1) + 81; omega⟩) hK hN hZ hP hD hS [0, 1, 2, 3, 4, 5, 6, 7, 8, 9, 10, 11, 12, 13, 14, 15] [0, 1] rfl (by decide) rfl rfl hl.1 rfl (Nat.le_of_ble_eq_true rfl) ⟨Nat.zero_le _, Nat.zero_le _⟩ dX2_tally_126 (fun v9 w9 H locs hp9 hP hD hS => ?_)
            obtain ⟨rfl, rfl⟩ := hp9
            have hP : va_P D vwCl (PlW op xO xW xN xC xA xM xG xT xH xR xF xB xX ob oc cI cZ (nI n) aO aW aN aC aA kS aM aG aT aH aR aF kF aB kT aX (nI n) f) H := hP
            have hD : va_D (wr_in (PlW op xO xW xN xC xA xM xG xT xH xR xF xB xX ob oc cI cZ (nI n) aO aW aN aC aA kS aM aG aT aH aR aF kF aB kT aX (nI n) f)) (PlW op xO xW xN xC xA xM xG xT xH xR xF xB xX ob oc cI cZ (nI n) aO aW aN aC aA kS aM aG aT aH aR aF kF aB kT aX (nI n) f) := hD
            refine W.eq (g2 := F0 m 129 ls [.int (tlM aO aC d (i + 1) blk), .int b2, .int a]) rfl ?_
            refine lv_imul hx hb dX2_tally_129 ?_
            refine lv_iadd hx hb dX2_tally_130 ?_
            refine lv_istore_n (lv' := [(3, .int (a + (b2 * (tlM aO aC d (i + 1) blk)))), (0, .ref op), (1, .int (nI i)), (2, .int blk), (4, .int b2), (5, .int (skFr aO i blk)), (6, .int (nI k))]) hx hb dX2_tally_131 rfl hl (by decide) rfl (fun ls hl => ?_)
            refine lv_iload_n hx hb dX2_tally_132 rfl (lv_at hl 0 rfl) ?_
            exact wr_iret hx hb hr hlocks hP hS rfl dX2_tally_133 (by exact ⟨by rw [tlM, if_neg c_16, inv52, tlW_end c_55, tlE]; simp [c_115, c_115n], rfl⟩)
        · have c_55n := Nat.not_le.mpr c_55
          refine lv_iload hx hb dX2_tally_58 (lv_at hl 5 rfl) ?_
          refine lv_iload hx hb dX2_tally_60 (lv_at hl 6 rfl) ?_
          refine rd_callSN (As := [.int (skFr aO i blk), .int (nI k)]) (rest := []) ⟨hx, hb, hml, hown, hts⟩ (c_X4_hasBit l D (skFr aO i blk) (nI k)) ⟨va_cnB 2 hts gX2_tally_X4_hasBit_n79 rfl rfl rfl hN.2 (hts (.initialized RX4) (by decide +kernel)) (by decide +kernel) ⟨by show 0 + 1 ≤ d + 1 + 2; omega, by show 8 + (2 + 11) + (0) ≤ 27 * (d + 1) + 81; omega⟩, hts (.static yX4_hasBit) (by decide +kernel), trivial⟩ hK hN hP rfl hl.1 rfl (Nat.le_of_ble_eq_true rfl) ⟨Nat.zero_le _, Nat.zero_le _⟩ dX2_tally_62 ?_
          refine rd_ifeq_b (tgt := 107) hx hb dX2_tally_65 (by decide) (fun c_65 => ?_) (fun c_65 => ?_)
          · refine lv_iinc (v := nI (k + 1)) (lv' := [(6, .int (nI (k + 1))), (0, .ref op), (1, .int (nI i)), (2, .int blk), (3, .int a), (4, .int b2), (5, .int (skFr aO i blk))]) hx hb dX2_tally_107 hl (k := 6) rfl (nI_add k 1) (by decide) rfl (fun ls hl => ?_)
            refine lv_goto (tgt := 52) hx hb dX2_tally_110 (by decide) ?_
            exact ih52 (k + 1) a b2 H locs ls (by omega) (by omega) (by rw [inv52, tlW_step c_55]; simp [tlF, c_65]) hP hD hS (lv_sub hl [1, 2, 3, 4, 5, 6, 0] rfl)
          · refine lv_iload_n hx hb dX2_tally_68 rfl (lv_at hl 2 rfl) ?_
            refine lv_aload_n hx hb dX2_tally_69 rfl (lv_at hl 0 rfl) ?_
            refine va_get (D := D) (ci := 2) (v := .ref xC) (C := RX2) (T := TX2) (N := 17) hx hb hts hinX2 hown hK hP 0 rfl rfl 4 (by decide) hw25 (fun _ h9 => h9) rfl dX2_tally_70 ?_
            refine lv_iload_n hx hb dX2_tally_73 rfl (lv_at hl 1 rfl) ?_
            refine lv_iconst (v := 4) hx hb dX2_tally_74 (by decide) ?_
            refine lv_imul hx hb dX2_tally_75 ?_
            refine lv_asi (y := nI (i * 4)) (pk_mul i 4) ?_
            refine lv_iload hx hb dX2_tally_76 (lv_at hl 6 rfl) ?_
            refine lv_iadd hx hb dX2_tally_78 ?_
            refine lv_asi (y := nI ((i * 4) + k)) (nI_add (i * 4) k) ?_
            refine rd_ald (q0 := 4) (t0 := 0) (j := (i * 4) + k) (v := aC ((i * 4) + k)) hx hb hK hP rfl rfl (rfl) (by omega) (by decide) (rfl) dX2_tally_79 ?_
            refine lv_ior hx hb dX2_tally_80 ?_
            refine lv_istore (lv' := [(7, .int (blk ||| (aC ((i * 4) + k)))), (0, .ref op), (1, .int (nI i)), (2, .int blk), (3, .int a), (4, .int b2), (5, .int (skFr aO i blk)), (6, .int (nI k))]) hx hb dX2_tally_81 hl (by decide) rfl (fun ls hl => ?_)
            refine lv_iload hx hb dX2_tally_83 (lv_at hl 0 rfl) ?_
            refine lv_iload_n hx hb dX2_tally_85 rfl (lv_at hl 3 rfl) ?_
            refine lv_icmp_ne (tgt := 95) hx hb dX2_tally_86 (by decide) (fun c_86 => ?_) (fun c_86 => ?_)
            · refine lv_iload_n hx hb dX2_tally_95 rfl (lv_at hl 4 rfl) ?_
              refine lv_aload_n hx hb dX2_tally_96 rfl (lv_at hl 1 rfl) ?_
              refine lv_iload_n hx hb dX2_tally_97 rfl (lv_at hl 2 rfl) ?_
              refine lv_iconst (v := 1) hx hb dX2_tally_98 (by decide) ?_
              refine lv_iadd hx hb dX2_tally_99 ?_
              refine lv_asi (y := nI (i + 1)) (nI_add i 1) ?_
              refine lv_iload hx hb dX2_tally_100 (lv_at hl 0 rfl) ?_
              refine wr_callS (As := [.ref op, .int (nI (i + 1)), .int (blk ||| (aC ((i * 4) + k)))]) (rest := [.int a]) ⟨hx, hb, hml, hown, hts⟩ (ihd (i + 1) (by omega) (blk ||| (aC ((i * 4) + k)))) (va_cwS 3 hts gX2_tally_X2_tally rfl rfl rfl (by decide +kernel) ⟨by show d + 2 + 1 ≤ d + 1 + 2; omega, by show 8 + (8 + 11) + (27 * d + 81) ≤ 27 * (d + 1) + 81; omega⟩) hK hN hZ hP hD hS [0, 1, 2, 3, 4, 5, 6, 7, 8, 9, 10, 11, 12, 13, 14, 15] [0, 1] rfl (by decide) rfl rfl hl.1 rfl (Nat.le_of_ble_eq_true rfl) ⟨Nat.zero_le _, Nat.zero_le _⟩ dX2_tally_102 (fun v9 w9 H locs hp9 hP hD hS => ?_)
              obtain ⟨rfl, rfl⟩ := hp9
              have hP : va_P D vwCl (PlW op xO xW xN xC xA xM xG xT xH xR xF xB xX ob oc cI cZ (nI n) aO aW aN aC aA kS aM aG aT aH aR aF kF aB kT aX (nI n) f) H := hP
              have hD : va_D (wr_in (PlW op xO xW xN xC xA xM xG xT xH xR xF xB xX ob oc cI cZ (nI n) aO aW aN aC aA kS aM aG aT aH aR aF kF aB kT aX (nI n) f)) (PlW op xO xW xN xC xA xM xG xT xH xR xF xB xX ob oc cI cZ (nI n) aO aW aN aC aA kS aM aG aT aH aR aF kF aB kT aX (nI n) f) := hD
              refine W.eq (g2 := F0 m 105 ls [.int (tlM aO aC d (i + 1) (blk ||| (aC ((i * 4) + k)))), .int a]) rfl ?_
              refine lv_iadd hx hb dX2_tally_105 ?_
              refine lv_istore_n (lv' := [(3, .int (a + (tlM aO aC d (i + 1) (blk ||| (aC ((i * 4) + k)))))), (7, .int (blk ||| (aC ((i * 4) + k)))), (0, .ref op), (1, .int (nI i)), (2, .int blk), (4, .int b2), (5, .int (skFr aO i blk)), (6, .int (nI k))]) hx hb dX2_tally_106 rfl hl (by decide) rfl (fun ls hl => ?_)
              refine lv_iinc (v := nI (k + 1)) (lv' := [(6, .int (nI (k + 1))), (3, .int (a + (tlM aO aC d (i + 1) (blk ||| (aC ((i * 4) + k)))))), (7, .int (blk ||| (aC ((i * 4) + k)))), (0, .ref op), (1, .int (nI i)), (2, .int blk), (4, .int b2), (5, .int (skFr aO i blk))]) hx hb dX2_tally_107 hl (k := 7) rfl (nI_add k 1) (by decide) rfl (fun ls hl => ?_)
              refine lv_goto (tgt := 52) hx hb dX2_tally_110 (by decide) ?_
              exact ih52 (k + 1) (a + (tlM aO aC d (i + 1) (blk ||| (aC ((i * 4) + k))))) b2 H locs ls (by omega) (by omega) (by rw [inv52, tlW_step c_55]; simp [tlF, c_65, c_86]) hP hD hS (lv_sub hl [3, 4, 5, 1, 6, 7, 0] rfl)
            · refine lv_iinc (v := b2 + 1) (lv' := [(4, .int (b2 + 1)), (7, .int (blk ||| (aC ((i * 4) + k)))), (0, .ref op), (1, .int (nI i)), (2, .int blk), (3, .int a), (5, .int (skFr aO i blk)), (6, .int (nI k))]) hx hb dX2_tally_89 hl (k := 5) rfl (rfl) (by decide) rfl (fun ls hl => ?_)
              refine lv_goto (tgt := 107) hx hb dX2_tally_92 (by decide) ?_
              refine lv_iinc (v := nI (k + 1)) (lv' := [(6, .int (nI (k + 1))), (4, .int (b2 + 1)), (7, .int (blk ||| (aC ((i * 4) + k)))), (0, .ref op), (1, .int (nI i)), (2, .int blk), (3, .int a), (5, .int (skFr aO i blk))]) hx hb dX2_tally_107 hl (k := 7) rfl (nI_add k 1) (by decide) rfl (fun ls hl => ?_)
              refine lv_goto (tgt := 52) hx hb dX2_tally_110 (by decide) ?_
              exact ih52 (k + 1) a (b2 + 1) H locs ls (by omega) (by omega) (by rw [inv52, tlW_step c_55]; simp [tlF, c_65, c_86]) hP hD hS (lv_sub hl [3, 4, 5, 6, 1, 7, 0] rfl)
    · refine lv_aload_n hx hb dX2_tally_19 rfl (lv_at hl 0 rfl) ?_
      refine lv_iload_n hx hb dX2_tally_20 rfl (lv_at hl 1 rfl) ?_
      refine lv_iconst (v := 1) hx hb dX2_tally_21 (by decide) ?_
      refine lv_iadd hx hb dX2_tally_22 ?_
      refine lv_asi (y := nI (i + 1)) (nI_add i 1) ?_
      refine lv_iload_n hx hb dX2_tally_23 rfl (lv_at hl 2 rfl) ?_
      refine wr_callS (As := [.ref op, .int (nI (i + 1)), .int blk]) (rest := []) ⟨hx, hb, hml, hown, hts⟩ (ihd (i + 1) (by omega) blk) (va_cwS 3 hts gX2_tally_X2_tally rfl rfl rfl (by decide +kernel) ⟨by show d + 2 + 1 ≤ d + 1 + 2; omega, by show 8 + (8 + 11) + (27 * d + 81) ≤ 27 * (d + 1) + 81; omega⟩) hK hN hZ hP hD hS [0, 1, 2, 3, 4, 5, 6, 7, 8, 9, 10, 11, 12, 13, 14, 15] [0, 1] rfl (by decide) rfl rfl hl.1 rfl (Nat.le_of_ble_eq_true rfl) ⟨Nat.zero_le _, Nat.zero_le _⟩ dX2_tally_24 (fun v9 w9 H locs hp9 hP hD hS => ?_)
      obtain ⟨rfl, rfl⟩ := hp9
      have hP : va_P D vwCl (PlW op xO xW xN xC xA xM xG xT xH xR xF xB xX ob oc cI cZ (nI n) aO aW aN aC aA kS aM aG aT aH aR aF kF aB kT aX (nI n) f) H := hP
      have hD : va_D (wr_in (PlW op xO xW xN xC xA xM xG xT xH xR xF xB xX ob oc cI cZ (nI n) aO aW aN aC aA kS aM aG aT aH aR aF kF aB kT aX (nI n) f)) (PlW op xO xW xN xC xA xM xG xT xH xR xF xB xX ob oc cI cZ (nI n) aO aW aN aC aA kS aM aG aT aH aR aF kF aB kT aX (nI n) f) := hD
      refine W.eq (g2 := F0 m 27 ls [.int (tlM aO aC d (i + 1) blk)]) rfl ?_
      exact wr_iret hx hb hr hlocks hP hS rfl dX2_tally_27 (by exact ⟨by rw [tlM, if_pos c_16], rfl⟩)
