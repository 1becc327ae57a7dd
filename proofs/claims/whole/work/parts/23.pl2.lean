set_option maxHeartbeats 4000000 in
set_option maxRecDepth 100000 in
theorem c_X2_fullOnes (l : Launch) (D : va_G) {op xO xW xN xC xA xM xG xT xH xR xF xB xX ob oc : Nat} {cI : ClassId} {cZ : ClassId} {n : Nat} {P : Nat → Nat → Int32} {kS kF kT : Int32} {aO aW aN aC aA aM aG aT aH aR aF aB aX f : Nat → Int32} (hn8 : n ≤ 8) : wr_M l yX2_fullOnes wsX2_fullOnes ({ frames := 11, cells := 0, slots := 0, locals := 324 } : Room) D (PlW op xO xW xN xC xA xM xG xT xH xR xF xB xX ob oc cI cZ (nI n) aO aW aN aC aA kS aM aG aT aH aR aF kF aB kT aX (nI n) f) [(cI, .int), (cZ, .boolean)] [.ref op] (fun v w9 => v = some (.int (tlM aO aC n 0 0)) ∧ w9 = PlW op xO xW xN xC xA xM xG xT xH xR xF xB xX ob oc cI cZ (nI n) aO aW aN aC aA kS aM aG aT aH aR aF kF aB kT aX (nI n) f) := by
  refine wr_of (cc := cX2_fullOnes) (maxL := 1) (ret := some .int) (by decide) rfl (Nat.le_of_ble_eq_true rfl) ?_
  intro p e s m below meth c hx hb hr hml hts hown hlocks hP hK hN hZ hD hS ls hl
  have hown : s.vm.findClass RX2 = some m.cls := hown
  have hl : lv_has ls 1 [(0, .ref op)] := hl
  suffices body : ∀ (H : Heap) (locs : List Loc), va_P D vwCl (PlW op xO xW xN xC xA xM xG xT xH xR xF xB xX ob oc cI cZ (nI n) aO aW aN aC aA kS aM aG aT aH aR aF kF aB kT aX (nI n) f) H → va_D (wr_in (PlW op xO xW xN xC xA xM xG xT xH xR xF xB xX ob oc cI cZ (nI n) aO aW aN aC aA kS aM aG aT aH aR aF kF aB kT aX (nI n) f)) (PlW op xO xW xN xC xA xM xG xT xH xR xF xB xX ob oc cI cZ (nI n) aO aW aN aC aA kS aM aG aT aH aR aF kF aB kT aX (nI n) f) → va_S (wr_in (PlW op xO xW xN xC xA xM xG xT xH xR xF xB xX ob oc cI cZ (nI n) aO aW aN aC aA kS aM aG aT aH aR aF kF aB kT aX (nI n) f)) s.heap H locs → wr_W p l e wsX2_fullOnes ({ frames := 11, cells := 0, slots := 0, locals := 324 } : Room) s m [.ref op] below meth c D (PlW op xO xW xN xC xA xM xG xT xH xR xF xB xX ob oc cI cZ (nI n) aO aW aN aC aA kS aM aG aT aH aR aF kF aB kT aX (nI n) f) (fun v w9 => v = some (.int (tlM aO aC n 0 0)) ∧ w9 = PlW op xO xW xN xC xA xM xG xT xH xR xF xB xX ob oc cI cZ (nI n) aO aW aN aC aA kS aM aG aT aH aR aF kF aB kT aX (nI n) f) H locs (F0 m 0 ls []) from body _ _ hP hD hS
  clear hP hD hS
  intro H locs hP hD hS
  refine lv_aload_n hx hb dX2_fullOnes_0 rfl (lv_at hl 0 rfl) ?_
  refine lv_iconst (v := 0) hx hb dX2_fullOnes_1 (by decide) ?_
  refine lv_iconst (v := 0) hx hb dX2_fullOnes_2 (by decide) ?_
  refine wr_callS (As := [.ref op, .int 0, .int 0]) (rest := []) ⟨hx, hb, hml, hown, hts⟩ (c_X2_tally l D hn8 n 0 (by omega) 0) (va_cwS 3 hts gX2_fullOnes_X2_tally rfl rfl rfl (by decide +kernel) ⟨by show n + 2 + 1 ≤ 11; omega, by show 8 + (8 + 11) + (27 * n + 81) ≤ 324; omega⟩) hK hN hZ hP hD hS [0, 1, 2, 3, 4, 5, 6, 7, 8, 9, 10, 11, 12, 13, 14, 15] [0, 1] rfl (by decide) rfl rfl hl.1 rfl (Nat.le_of_ble_eq_true rfl) ⟨Nat.zero_le _, Nat.zero_le _⟩ dX2_fullOnes_3 (fun v9 w9 H locs hp9 hP hD hS => ?_)
  obtain ⟨rfl, rfl⟩ := hp9
  have hP : va_P D vwCl (PlW op xO xW xN xC xA xM xG xT xH xR xF xB xX ob oc cI cZ (nI n) aO aW aN aC aA kS aM aG aT aH aR aF kF aB kT aX (nI n) f) H := hP
  have hD : va_D (wr_in (PlW op xO xW xN xC xA xM xG xT xH xR xF xB xX ob oc cI cZ (nI n) aO aW aN aC aA kS aM aG aT aH aR aF kF aB kT aX (nI n) f)) (PlW op xO xW xN xC xA xM xG xT xH xR xF xB xX ob oc cI cZ (nI n) aO aW aN aC aA kS aM aG aT aH aR aF kF aB kT aX (nI n) f) := hD
  refine W.eq (g2 := F0 m 6 ls [.int (tlM aO aC n 0 0)]) rfl ?_
  exact wr_iret hx hb hr hlocks hP hS rfl dX2_fullOnes_6 (by exact ⟨rfl, rfl⟩)
set_option maxHeartbeats 4000000 in
set_option maxRecDepth 100000 in
theorem c_X2_findTop (l : Launch) (D : va_G) {op xO xW xN xC xA xM xG xT xH xR xF xB xX ob oc : Nat} {cI : ClassId} {cZ : ClassId} {n : Nat} {P : Nat → Nat → Int32} {kS kF kT : Int32} {aO aW aN aC aA aM aG aT aH aR aF aB aX f : Nat → Int32} (hn8 : n ≤ 8) : wr_M l yX2_findTop wsX2_findTop ({ frames := 11, cells := 0, slots := 0, locals := 324 } : Room) D (PlW op xO xW xN xC xA xM xG xT xH xR xF xB xX ob oc cI cZ (nI n) aO aW aN aC aA kS aM aG aT aH aR aF kF aB kT aX (nI n) f) [(cI, .int), (cZ, .boolean)] [.ref op] (fun v w9 => ∃ (kS9 : Int32) (aT9 aH9 : Nat → Int32), topOk n aA aG kS9 aT9 aH9 ∧ v = some (.int (skM aC aA aM aG aT9 aH9 kS9 n 0 0 0 (-1, aF, aR)).1) ∧ w9 = PlW op xO xW xN xC xA xM xG xT xH xR xF xB xX ob oc cI cZ (nI n) aO aW aN aC aA kS9 aM aG aT9 aH9 ((skM aC aA aM aG aT9 aH9 kS9 n 0 0 0 (-1, aF, aR)).2.2) ((skM aC aA aM aG aT9 aH9 kS9 n 0 0 0 (-1, aF, aR)).2.1) ((skM aC aA aM aG aT9 aH9 kS9 n 0 0 0 (-1, aF, aR)).1) aB kT aX (nI n) f) := by
  refine wr_of (cc := cX2_findTop) (maxL := 2) (ret := some .int) (by decide) rfl (Nat.le_of_ble_eq_true rfl) ?_
  intro p e s m below meth c hx hb hr hml hts hown hlocks hP hK hN hZ hD hS ls hl
  have hown : s.vm.findClass RX2 = some m.cls := hown
  have hl : lv_has ls 2 [(0, .ref op)] := hl
  have hinX2 : ∀ w ∈ u_ws RX2 TX2 17, w ∈ wsX2_findTop := by decide +kernel
  have hw44 := hts (.fieldLink RX2 44 "CornerLabels$Plans" "hope" "[I") (by decide +kernel)
  have hw9 := hts (.fieldLink RX2 9 "CornerLabels$Plans" "points" "I") (by decide +kernel)
  have hw31 := hts (.fieldLink RX2 31 "CornerLabels$Plans" "allowedSpots" "I") (by decide +kernel)
  have hw53 := hts (.fieldLink RX2 53 "CornerLabels$Plans" "foundScore" "I") (by decide +kernel)
  have hw41 := hts (.fieldLink RX2 41 "CornerLabels$Plans" "mostGain" "[I") (by decide +kernel)
  have hw28 := hts (.fieldLink RX2 28 "CornerLabels$Plans" "allowed" "[I") (by decide +kernel)
  suffices body : ∀ (H : Heap) (locs : List Loc), va_P D vwCl (PlW op xO xW xN xC xA xM xG xT xH xR xF xB xX ob oc cI cZ (nI n) aO aW aN aC aA kS aM aG aT aH aR aF kF aB kT aX (nI n) f) H → va_D (wr_in (PlW op xO xW xN xC xA xM xG xT xH xR xF xB xX ob oc cI cZ (nI n) aO aW aN aC aA kS aM aG aT aH aR aF kF aB kT aX (nI n) f)) (PlW op xO xW xN xC xA xM xG xT xH xR xF xB xX ob oc cI cZ (nI n) aO aW aN aC aA kS aM aG aT aH aR aF kF aB kT aX (nI n) f) → va_S (wr_in (PlW op xO xW xN xC xA xM xG xT xH xR xF xB xX ob oc cI cZ (nI n) aO aW aN aC aA kS aM aG aT aH aR aF kF aB kT aX (nI n) f)) s.heap H locs → wr_W p l e wsX2_findTop ({ frames := 11, cells := 0, slots := 0, locals := 324 } : Room) s m [.ref op] below meth c D (PlW op xO xW xN xC xA xM xG xT xH xR xF xB xX ob oc cI cZ (nI n) aO aW aN aC aA kS aM aG aT aH aR aF kF aB kT aX (nI n) f) (fun v w9 => ∃ (kS9 : Int32) (aT9 aH9 : Nat → Int32), topOk n aA aG kS9 aT9 aH9 ∧ v = some (.int (skM aC aA aM aG aT9 aH9 kS9 n 0 0 0 (-1, aF, aR)).1) ∧ w9 = PlW op xO xW xN xC xA xM xG xT xH xR xF xB xX ob oc cI cZ (nI n) aO aW aN aC aA kS9 aM aG aT9 aH9 ((skM aC aA aM aG aT9 aH9 kS9 n 0 0 0 (-1, aF, aR)).2.2) ((skM aC aA aM aG aT9 aH9 kS9 n 0 0 0 (-1, aF, aR)).2.1) ((skM aC aA aM aG aT9 aH9 kS9 n 0 0 0 (-1, aF, aR)).1) aB kT aX (nI n) f) H locs (F0 m 0 ls []) from body _ _ hP hD hS
  clear hP hD hS
  intro H locs hP hD hS
  refine lv_aload_n hx hb dX2_findTop_0 rfl (lv_at hl 0 rfl) ?_
  refine va_get (D := D) (ci := 2) (v := .ref xH) (C := RX2) (T := TX2) (N := 17) hx hb hts hinX2 hown hK hP 0 rfl rfl 10 (by decide) hw44 (fun _ h9 => h9) rfl dX2_findTop_1 ?_
  refine lv_aload_n hx hb dX2_findTop_4 rfl (lv_at hl 0 rfl) ?_
  refine va_get (D := D) (ci := 2) (v := .int (nI n)) (C := RX2) (T := TX2) (N := 17) hx hb hts hinX2 hown hK hP 0 rfl rfl 0 (by decide) hw9 (fun _ h9 => h9) rfl dX2_findTop_5 ?_
  refine lv_iconst (v := 0) hx hb dX2_findTop_8 (by decide) ?_
  refine wr_ast (q0 := 9) (t0 := 0) (j := n) hx hb hK hP hD hS rfl rfl (rfl) (by omega) (by decide) dX2_findTop_9 (fun H locs hP hD hS => ?_)
  obtain ⟨aH_9, eaH_9⟩ : ∃ zz9 : Nat → Int32, zz9 = upd aH n 0 := ⟨_, rfl⟩
  rw [← eaH_9] at hP hD
  have hP : va_P D vwCl (PlW op xO xW xN xC xA xM xG xT xH xR xF xB xX ob oc cI cZ (nI n) aO aW aN aC aA kS aM aG aT aH_9 aR aF kF aB kT aX (nI n) f) H := hP
  have hD : va_D (wr_in (PlW op xO xW xN xC xA xM xG xT xH xR xF xB xX ob oc cI cZ (nI n) aO aW aN aC aA kS aM aG aT aH aR aF kF aB kT aX (nI n) f)) (PlW op xO xW xN xC xA xM xG xT xH xR xF xB xX ob oc cI cZ (nI n) aO aW aN aC aA kS aM aG aT aH_9 aR aF kF aB kT aX (nI n) f) := hD
  refine lv_aload_n hx hb dX2_findTop_10 rfl (lv_at hl 0 rfl) ?_
  refine lv_iconst (v := 0) hx hb dX2_findTop_11 (by decide) ?_
  refine va_put (D := D) (ci := 2) (v := .int 0) (ty := .int) (C := RX2) (T := TX2) (N := 17) hx hb hts hinX2 tyX2 tyX2_ok nmX2 hown hK hP hD hS 0 rfl rfl 6 (by decide) hw31 (fun _ h9 => h9) rfl (by decide +kernel) rfl rfl (Nat.le_of_ble_eq_true rfl) dX2_findTop_12 (fun H locs hP hD hS => ?_)
  have hP : va_P D vwCl (PlW op xO xW xN xC xA xM xG xT xH xR xF xB xX ob oc cI cZ (nI n) aO aW aN aC aA 0 aM aG aT aH_9 aR aF kF aB kT aX (nI n) f) H := hP
  have hD : va_D (wr_in (PlW op xO xW xN xC xA xM xG xT xH xR xF xB xX ob oc cI cZ (nI n) aO aW aN aC aA kS aM aG aT aH aR aF kF aB kT aX (nI n) f)) (PlW op xO xW xN xC xA xM xG xT xH xR xF xB xX ob oc cI cZ (nI n) aO aW aN aC aA 0 aM aG aT aH_9 aR aF kF aB kT aX (nI n) f) := hD
  refine lv_aload_n hx hb dX2_findTop_15 rfl (lv_at hl 0 rfl) ?_
  refine va_get (D := D) (ci := 2) (v := .int (nI n)) (C := RX2) (T := TX2) (N := 17) hx hb hts hinX2 hown hK hP 0 rfl rfl 0 (by decide) hw9 (fun _ h9 => h9) rfl dX2_findTop_16 ?_
  refine lv_iconst (v := 1) hx hb dX2_findTop_19 (by decide) ?_
  refine lv_isub hx hb dX2_findTop_20 ?_
  refine lv_asi (y := nI n + (-1)) (Int32.sub_eq_add_neg _ _) ?_
  refine lv_istore_n (lv' := [(1, .int (nI n + (-1))), (0, .ref op)]) hx hb dX2_findTop_21 rfl hl (by decide) rfl (fun ls hl => ?_)
  suffices loop22 : ∀ (k22 q : Nat) (kS1 : Int32) (aT1 : Nat → Int32) (aH1 : Nat → Int32) (H : Heap) (locs : List Loc) (ls : Array Slot), q ≤ n → q + 1 ≤ k22 → (topI n aA aG q kS1 aT1 aH1) → va_P D vwCl (PlW op xO xW xN xC xA xM xG xT xH xR xF xB xX ob oc cI cZ (nI n) aO aW aN aC aA kS1 aM aG aT1 aH1 aR aF kF aB kT aX (nI n) f) H → va_D (wr_in (PlW op xO xW xN xC xA xM xG xT xH xR xF xB xX ob oc cI cZ (nI n) aO aW aN aC aA kS aM aG aT aH aR aF kF aB kT aX (nI n) f)) (PlW op xO xW xN xC xA xM xG xT xH xR xF xB xX ob oc cI cZ (nI n) aO aW aN aC aA kS1 aM aG aT1 aH1 aR aF kF aB kT aX (nI n) f) → va_S (wr_in (PlW op xO xW xN xC xA xM xG xT xH xR xF xB xX ob oc cI cZ (nI n) aO aW aN aC aA kS aM aG aT aH aR aF kF aB kT aX (nI n) f)) s.heap H locs → lv_has ls 2 [(0, .ref op), (1, .int (nI q + (-1)))] → wr_W p l e wsX2_findTop ({ frames := 11, cells := 0, slots := 0, locals := 324 } : Room) s m [.ref op] below meth c D (PlW op xO xW xN xC xA xM xG xT xH xR xF xB xX ob oc cI cZ (nI n) aO aW aN aC aA kS aM aG aT aH aR aF kF aB kT aX (nI n) f) (fun v w9 => ∃ (kS9 : Int32) (aT9 aH9 : Nat → Int32), topOk n aA aG kS9 aT9 aH9 ∧ v = some (.int (skM aC aA aM aG aT9 aH9 kS9 n 0 0 0 (-1, aF, aR)).1) ∧ w9 = PlW op xO xW xN xC xA xM xG xT xH xR xF xB xX ob oc cI cZ (nI n) aO aW aN aC aA kS9 aM aG aT9 aH9 ((skM aC aA aM aG aT9 aH9 kS9 n 0 0 0 (-1, aF, aR)).2.2) ((skM aC aA aM aG aT9 aH9 kS9 n 0 0 0 (-1, aF, aR)).2.1) ((skM aC aA aM aG aT9 aH9 kS9 n 0 0 0 (-1, aF, aR)).1) aB kT aX (nI n) f) H locs (F0 m 22 ls []) from
    loop22 (n + 1) n 0 aT aH_9 H locs ls (by omega) (by omega) (by exact topI_init eaH_9) hP hD hS (lv_sub hl [1, 0] rfl)
  intro k22
  induction k22 with
  | zero => intro q kS1 aT1 aH1 H locs ls h1 h2; exact absurd h2 (by omega)
  | succ k22 ih22 =>
    intro q kS1 aT1 aH1 H locs ls hle22 hlt22 inv22 hP hD hS hl
    refine lv_iload_n hx hb dX2_findTop_22 rfl (lv_at hl 1 rfl) ?_
    refine lv_if_lt (tgt := 83) hx hb dX2_findTop_23 (by decide) (fun c_23 => ?_) (fun c_23 => ?_)
    · have c_23n := Int32.not_le.mpr c_23
      refine lv_aload_n hx hb dX2_findTop_83 rfl (lv_at hl 0 rfl) ?_
      refine lv_iconst (v := (-1)) hx hb dX2_findTop_84 (by decide) ?_
      refine va_put (D := D) (ci := 2) (v := .int (-1)) (ty := .int) (C := RX2) (T := TX2) (N := 17) hx hb hts hinX2 tyX2 tyX2_ok nmX2 hown hK hP hD hS 0 rfl rfl 13 (by decide) hw53 (fun _ h9 => h9) rfl (by decide +kernel) rfl rfl (Nat.le_of_ble_eq_true rfl) dX2_findTop_85 (fun H locs hP hD hS => ?_)
      have hP : va_P D vwCl (PlW op xO xW xN xC xA xM xG xT xH xR xF xB xX ob oc cI cZ (nI n) aO aW aN aC aA kS1 aM aG aT1 aH1 aR aF (-1) aB kT aX (nI n) f) H := hP
      have hD : va_D (wr_in (PlW op xO xW xN xC xA xM xG xT xH xR xF xB xX ob oc cI cZ (nI n) aO aW aN aC aA kS aM aG aT aH aR aF kF aB kT aX (nI n) f)) (PlW op xO xW xN xC xA xM xG xT xH xR xF xB xX ob oc cI cZ (nI n) aO aW aN aC aA kS1 aM aG aT1 aH1 aR aF (-1) aB kT aX (nI n) f) := hD
      refine lv_aload_n hx hb dX2_findTop_88 rfl (lv_at hl 0 rfl) ?_
      refine lv_iconst (v := 0) hx hb dX2_findTop_89 (by decide) ?_
      refine lv_iconst (v := 0) hx hb dX2_findTop_90 (by decide) ?_
      refine lv_iconst (v := 0) hx hb dX2_findTop_91 (by decide) ?_
      refine wr_callS (As := [.ref op, .int 0, .int 0, .int 0]) (rest := []) ⟨hx, hb, hml, hown, hts⟩ (c_X2_seek l D hn8 n 0 (by omega) 0 0 (-1) aF aR) (va_cwS 4 hts gX2_findTop_X2_seek rfl rfl rfl (by decide +kernel) ⟨by show n + 2 + 1 ≤ 11; omega, by show 8 + (8 + 11) + (27 * n + 81) ≤ 324; omega⟩) hK hN hZ hP hD hS [0, 1, 2, 3, 4, 5, 6, 7, 8, 9, 10, 11, 12, 13, 14, 15] [0, 1] rfl (by decide) rfl rfl hl.1 rfl (Nat.le_of_ble_eq_true rfl) ⟨Nat.zero_le _, Nat.zero_le _⟩ dX2_findTop_92 (fun v9 w9 H locs hp9 hP hD hS => ?_)
      obtain ⟨rfl, rfl⟩ := hp9
      have hP : va_P D vwCl (PlW op xO xW xN xC xA xM xG xT xH xR xF xB xX ob oc cI cZ (nI n) aO aW aN aC aA kS1 aM aG aT1 aH1 ((skM aC aA aM aG aT1 aH1 kS1 n 0 0 0 (-1, aF, aR)).2.2) ((skM aC aA aM aG aT1 aH1 kS1 n 0 0 0 (-1, aF, aR)).2.1) ((skM aC aA aM aG aT1 aH1 kS1 n 0 0 0 (-1, aF, aR)).1) aB kT aX (nI n) f) H := hP
      have hD : va_D (wr_in (PlW op xO xW xN xC xA xM xG xT xH xR xF xB xX ob oc cI cZ (nI n) aO aW aN aC aA kS aM aG aT aH aR aF kF aB kT aX (nI n) f)) (PlW op xO xW xN xC xA xM xG xT xH xR xF xB xX ob oc cI cZ (nI n) aO aW aN aC aA kS1 aM aG aT1 aH1 ((skM aC aA aM aG aT1 aH1 kS1 n 0 0 0 (-1, aF, aR)).2.2) ((skM aC aA aM aG aT1 aH1 kS1 n 0 0 0 (-1, aF, aR)).2.1) ((skM aC aA aM aG aT1 aH1 kS1 n 0 0 0 (-1, aF, aR)).1) aB kT aX (nI n) f) := hD
      refine W.eq (g2 := F0 m 95 ls []) rfl ?_
      refine lv_aload_n hx hb dX2_findTop_95 rfl (lv_at hl 0 rfl) ?_
      refine va_get (D := D) (ci := 2) (v := .int ((skM aC aA aM aG aT1 aH1 kS1 n 0 0 0 (-1, aF, aR)).1)) (C := RX2) (T := TX2) (N := 17) hx hb hts hinX2 hown hK hP 0 rfl rfl 13 (by decide) hw53 (fun _ h9 => h9) rfl dX2_findTop_96 ?_
      exact wr_iret hx hb hr hlocks hP hS rfl dX2_findTop_99 (by have hq0 := topq_zero (by omega) c_23; subst hq0; exact ⟨_, _, _, topI_fin inv22, rfl, rfl⟩)
    · have c_23n := Int32.not_lt.mp c_23
      obtain ⟨i, rfl, ei⟩ := topq_pos c_23
      rw [ei] at hl
      have hl : lv_has ls 2 [(0, .ref op), (1, .int (nI i))] := hl
      refine lv_aload_n hx hb dX2_findTop_26 rfl (lv_at hl 0 rfl) ?_
      refine va_get (D := D) (ci := 2) (v := .ref xT) (C := RX2) (T := TX2) (N := 17) hx hb hts hinX2 hown hK hP 0 rfl rfl 9 (by decide) hw41 (fun _ h9 => h9) rfl dX2_findTop_27 ?_
      refine lv_iload_n hx hb dX2_findTop_30 rfl (lv_at hl 1 rfl) ?_
      refine lv_aload_n hx hb dX2_findTop_31 rfl (lv_at hl 0 rfl) ?_
      refine lv_iload_n hx hb dX2_findTop_32 rfl (lv_at hl 1 rfl) ?_
      refine wr_callV (As := [.int (nI i)]) (rest := [.int (nI i), .ref xT]) ⟨hx, hb, hml, hown, hts⟩ (c_X2_findMostGain (P := fun _ _ => 0) l D hn8 (i := i) (by omega)) (cwV 1 hts gX2_findTop_X2_findMostGain rfl rfl rfl (by decide +kernel) ⟨by show 1 + 1 ≤ 11; omega, by show 8 + (4 + 11) + (21) ≤ 324; omega⟩) hK hN hZ hP hD hS [0, 1, 2, 3, 4, 5, 6, 7, 8, 9, 10, 11, 12, 13, 14, 15] [0, 1] rfl (by decide) rfl (q0 := 0) rfl rfl rfl hl.1 rfl (Nat.le_of_ble_eq_true rfl) ⟨Nat.zero_le _, Nat.zero_le _⟩ dX2_findTop_33 (fun v9 w9 H locs hp9 hP hD hS => ?_)
      obtain ⟨rfl, rfl⟩ := hp9
      have hP : va_P D vwCl (PlW op xO xW xN xC xA xM xG xT xH xR xF xB xX ob oc cI cZ (nI n) aO aW aN aC aA kS1 aM aG aT1 aH1 aR aF kF aB kT aX (nI n) f) H := hP
      have hD : va_D (wr_in (PlW op xO xW xN xC xA xM xG xT xH xR xF xB xX ob oc cI cZ (nI n) aO aW aN aC aA kS aM aG aT aH aR aF kF aB kT aX (nI n) f)) (PlW op xO xW xN xC xA xM xG xT xH xR xF xB xX ob oc cI cZ (nI n) aO aW aN aC aA kS1 aM aG aT1 aH1 aR aF kF aB kT aX (nI n) f) := hD
      refine W.eq (g2 := F0 m 36 ls [.int (gMG aA aG i), .int (nI i), .ref xT]) rfl ?_
      refine wr_ast (q0 := 8) (t0 := 0) (j := i) hx hb hK hP hD hS rfl rfl (rfl) (by omega) (by decide) dX2_findTop_36 (fun H locs hP hD hS => ?_)
      obtain ⟨aT_36, eaT_36⟩ : ∃ zz9 : Nat → Int32, zz9 = upd aT1 i (gMG aA aG i) := ⟨_, rfl⟩
      rw [← eaT_36] at hP hD
      have hP : va_P D vwCl (PlW op xO xW xN xC xA xM xG xT xH xR xF xB xX ob oc cI cZ (nI n) aO aW aN aC aA kS1 aM aG aT_36 aH1 aR aF kF aB kT aX (nI n) f) H := hP
      have hD : va_D (wr_in (PlW op xO xW xN xC xA xM xG xT xH xR xF xB xX ob oc cI cZ (nI n) aO aW aN aC aA kS aM aG aT aH aR aF kF aB kT aX (nI n) f)) (PlW op xO xW xN xC xA xM xG xT xH xR xF xB xX ob oc cI cZ (nI n) aO aW aN aC aA kS1 aM aG aT_36 aH1 aR aF kF aB kT aX (nI n) f) := hD
      refine lv_aload_n hx hb dX2_findTop_37 rfl (lv_at hl 0 rfl) ?_
      refine va_get (D := D) (ci := 2) (v := .ref xH) (C := RX2) (T := TX2) (N := 17) hx hb hts hinX2 hown hK hP 0 rfl rfl 10 (by decide) hw44 (fun _ h9 => h9) rfl dX2_findTop_38 ?_
      refine lv_iload_n hx hb dX2_findTop_41 rfl (lv_at hl 1 rfl) ?_
      refine lv_aload_n hx hb dX2_findTop_42 rfl (lv_at hl 0 rfl) ?_
      refine va_get (D := D) (ci := 2) (v := .ref xH) (C := RX2) (T := TX2) (N := 17) hx hb hts hinX2 hown hK hP 0 rfl rfl 10 (by decide) hw44 (fun _ h9 => h9) rfl dX2_findTop_43 ?_
      refine lv_iload_n hx hb dX2_findTop_46 rfl (lv_at hl 1 rfl) ?_
      refine lv_iconst (v := 1) hx hb dX2_findTop_47 (by decide) ?_
      refine lv_iadd hx hb dX2_findTop_48 ?_
      refine lv_asi (y := nI (i + 1)) (nI_add i 1) ?_
      refine rd_ald (q0 := 9) (t0 := 0) (j := i + 1) (v := aH1 (i + 1)) hx hb hK hP rfl rfl (rfl) (by omega) (by decide) (rfl) dX2_findTop_49 ?_
      refine lv_aload_n hx hb dX2_findTop_50 rfl (lv_at hl 0 rfl) ?_
      refine va_get (D := D) (ci := 2) (v := .ref xT) (C := RX2) (T := TX2) (N := 17) hx hb hts hinX2 hown hK hP 0 rfl rfl 9 (by decide) hw41 (fun _ h9 => h9) rfl dX2_findTop_51 ?_
      refine lv_iload_n hx hb dX2_findTop_54 rfl (lv_at hl 1 rfl) ?_
      refine rd_ald (q0 := 8) (t0 := 0) (j := i) (v := aT_36 i) hx hb hK hP rfl rfl (rfl) (by omega) (by decide) (rfl) dX2_findTop_55 ?_
      refine lv_iadd hx hb dX2_findTop_56 ?_
      refine wr_ast (q0 := 9) (t0 := 0) (j := i) hx hb hK hP hD hS rfl rfl (rfl) (by omega) (by decide) dX2_findTop_57 (fun H locs hP hD hS => ?_)
      obtain ⟨aH_57, eaH_57⟩ : ∃ zz9 : Nat → Int32, zz9 = upd aH1 i ((aH1 (i + 1)) + (aT_36 i)) := ⟨_, rfl⟩
      rw [← eaH_57] at hP hD
      have hP : va_P D vwCl (PlW op xO xW xN xC xA xM xG xT xH xR xF xB xX ob oc cI cZ (nI n) aO aW aN aC aA kS1 aM aG aT_36 aH_57 aR aF kF aB kT aX (nI n) f) H := hP
      have hD : va_D (wr_in (PlW op xO xW xN xC xA xM xG xT xH xR xF xB xX ob oc cI cZ (nI n) aO aW aN aC aA kS aM aG aT aH aR aF kF aB kT aX (nI n) f)) (PlW op xO xW xN xC xA xM xG xT xH xR xF xB xX ob oc cI cZ (nI n) aO aW aN aC aA kS1 aM aG aT_36 aH_57 aR aF kF aB kT aX (nI n) f) := hD
      refine lv_aload_n hx hb dX2_findTop_58 rfl (lv_at hl 0 rfl) ?_
      refine lv_dup hx hb dX2_findTop_59 rfl ?_
      refine va_get (D := D) (ci := 2) (v := .int kS1) (C := RX2) (T := TX2) (N := 17) hx hb hts hinX2 hown hK hP 0 rfl rfl 6 (by decide) hw31 (fun _ h9 => h9) rfl dX2_findTop_60 ?_
      refine lv_aload_n hx hb dX2_findTop_63 rfl (lv_at hl 0 rfl) ?_
      refine va_get (D := D) (ci := 2) (v := .ref xA) (C := RX2) (T := TX2) (N := 17) hx hb hts hinX2 hown hK hP 0 rfl rfl 5 (by decide) hw28 (fun _ h9 => h9) rfl dX2_findTop_64 ?_
      refine lv_iload_n hx hb dX2_findTop_67 rfl (lv_at hl 1 rfl) ?_
      refine rd_ald (q0 := 5) (t0 := 0) (j := i) (v := aA i) hx hb hK hP rfl rfl (rfl) (by omega) (by decide) (rfl) dX2_findTop_68 ?_
      refine lv_iload_n hx hb dX2_findTop_69 rfl (lv_at hl 1 rfl) ?_
      refine lv_iconst (v := 4) hx hb dX2_findTop_70 (by decide) ?_
      refine lv_imul hx hb dX2_findTop_71 ?_
      refine lv_asi (y := nI (i * 4)) (pk_mul i 4) ?_
      refine lv_ishl hx hb dX2_findTop_72 ?_
      refine lv_ior hx hb dX2_findTop_73 ?_
      refine va_put (D := D) (ci := 2) (v := .int (kS1 ||| ((aA i) <<< (nI (i * 4) &&& 31)))) (ty := .int) (C := RX2) (T := TX2) (N := 17) hx hb hts hinX2 tyX2 tyX2_ok nmX2 hown hK hP hD hS 0 rfl rfl 6 (by decide) hw31 (fun _ h9 => h9) rfl (by decide +kernel) rfl rfl (Nat.le_of_ble_eq_true rfl) dX2_findTop_74 (fun H locs hP hD hS => ?_)
      have hP : va_P D vwCl (PlW op xO xW xN xC xA xM xG xT xH xR xF xB xX ob oc cI cZ (nI n) aO aW aN aC aA (kS1 ||| ((aA i) <<< (nI (i * 4) &&& 31))) aM aG aT_36 aH_57 aR aF kF aB kT aX (nI n) f) H := hP
      have hD : va_D (wr_in (PlW op xO xW xN xC xA xM xG xT xH xR xF xB xX ob oc cI cZ (nI n) aO aW aN aC aA kS aM aG aT aH aR aF kF aB kT aX (nI n) f)) (PlW op xO xW xN xC xA xM xG xT xH xR xF xB xX ob oc cI cZ (nI n) aO aW aN aC aA (kS1 ||| ((aA i) <<< (nI (i * 4) &&& 31))) aM aG aT_36 aH_57 aR aF kF aB kT aX (nI n) f) := hD
      refine lv_iinc (v := nI i + (-1)) (lv' := [(1, .int (nI i + (-1))), (0, .ref op)]) hx hb dX2_findTop_77 hl (k := 1) rfl (rfl) (by decide) rfl (fun ls hl => ?_)
      refine lv_goto (tgt := 22) hx hb dX2_findTop_80 (by decide) ?_
      exact ih22 i (kS1 ||| ((aA i) <<< (nI (i * 4) &&& 31))) aT_36 aH_57 H locs ls (by omega) (by omega) (by exact topI_step (by omega) inv22 eaT_36 eaH_57) hP hD hS (lv_sub hl [1, 0] rfl)
set_option maxHeartbeats 4000000 in
set_option maxRecDepth 100000 in
theorem c_X2_findHeaviest (l : Launch) (D : va_G) {op xO xW xN xC xA xM xG xT xH xR xF xB xX ob oc : Nat} {cI : ClassId} {cZ : ClassId} {n : Nat} {P : Nat → Nat → Int32} {kS kF kT : Int32} {aO aW aN aC aA aM aG aT aH aR aF aB aX f : Nat → Int32} (hn8 : n ≤ 8) (wo : Int32) : wr_M l yX2_findHeaviest wsX2_findHeaviest ({ frames := 12, cells := 0, slots := 0, locals := 345 } : Room) D (PlW op xO xW xN xC xA xM xG xT xH xR xF xB xX ob oc cI cZ (nI n) aO aW aN aC aA kS aM aG aT aH aR aF kF aB kT aX (nI n) f) [(cI, .int), (cZ, .boolean)] [.ref op, .int wo] (fun v w9 => ∃ (aA9 aM9 aG9 : Nat → Int32), fhI n aO aW wo aA9 aM9 aG9 ∧ ∃ (kS9 : Int32) (aT9 aH9 : Nat → Int32), topOk n aA9 aG9 kS9 aT9 aH9 ∧ v = some (.int (skM aC aA9 aM9 aG9 aT9 aH9 kS9 n 0 0 0 (-1, aF, aR)).1) ∧ w9 = PlW op xO xW xN xC xA xM xG xT xH xR xF xB xX ob oc cI cZ (nI n) aO aW aN aC aA9 kS9 aM9 aG9 aT9 aH9 ((skM aC aA9 aM9 aG9 aT9 aH9 kS9 n 0 0 0 (-1, aF, aR)).2.2) ((skM aC aA9 aM9 aG9 aT9 aH9 kS9 n 0 0 0 (-1, aF, aR)).2.1) ((skM aC aA9 aM9 aG9 aT9 aH9 kS9 n 0 0 0 (-1, aF, aR)).1) aB kT aX (nI n) f) := by
  refine wr_of (cc := cX2_findHeaviest) (maxL := 4) (ret := some .int) (by decide) rfl (Nat.le_of_ble_eq_true rfl) ?_
  intro p e s m below meth c hx hb hr hml hts hown hlocks hP hK hN hZ hD hS ls hl
  have hown : s.vm.findClass RX2 = some m.cls := hown
  have hl : lv_has ls 4 [(0, .ref op), (1, .int wo)] := hl
  have hinX2 : ∀ w ∈ u_ws RX2 TX2 17, w ∈ wsX2_findHeaviest := by decide +kernel
  have hw9 := hts (.fieldLink RX2 9 "CornerLabels$Plans" "points" "I") (by decide +kernel)
  have hw28 := hts (.fieldLink RX2 28 "CornerLabels$Plans" "allowed" "[I") (by decide +kernel)
  have hw15 := hts (.fieldLink RX2 15 "CornerLabels$Plans" "open" "[I") (by decide +kernel)
  have hw34 := hts (.fieldLink RX2 34 "CornerLabels$Plans" "mayDrop" "[Z") (by decide +kernel)
  have hw38 := hts (.fieldLink RX2 38 "CornerLabels$Plans" "gain" "[I") (by decide +kernel)
  have hw19 := hts (.fieldLink RX2 19 "CornerLabels$Plans" "weight" "[I") (by decide +kernel)
  suffices body : ∀ (H : Heap) (locs : List Loc), va_P D vwCl (PlW op xO xW xN xC xA xM xG xT xH xR xF xB xX ob oc cI cZ (nI n) aO aW aN aC aA kS aM aG aT aH aR aF kF aB kT aX (nI n) f) H → va_D (wr_in (PlW op xO xW xN xC xA xM xG xT xH xR xF xB xX ob oc cI cZ (nI n) aO aW aN aC aA kS aM aG aT aH aR aF kF aB kT aX (nI n) f)) (PlW op xO xW xN xC xA xM xG xT xH xR xF xB xX ob oc cI cZ (nI n) aO aW aN aC aA kS aM aG aT aH aR aF kF aB kT aX (nI n) f) → va_S (wr_in (PlW op xO xW xN xC xA xM xG xT xH xR xF xB xX ob oc cI cZ (nI n) aO aW aN aC aA kS aM aG aT aH aR aF kF aB kT aX (nI n) f)) s.heap H locs → wr_W p l e wsX2_findHeaviest ({ frames := 12, cells := 0, slots := 0, locals := 345 } : Room) s m [.ref op, .int wo] below meth c D (PlW op xO xW xN xC xA xM xG xT xH xR xF xB xX ob oc cI cZ (nI n) aO aW aN aC aA kS aM aG aT aH aR aF kF aB kT aX (nI n) f) (fun v w9 => ∃ (aA9 aM9 aG9 : Nat → Int32), fhI n aO aW wo aA9 aM9 aG9 ∧ ∃ (kS9 : Int32) (aT9 aH9 : Nat → Int32), topOk n aA9 aG9 kS9 aT9 aH9 ∧ v = some (.int (skM aC aA9 aM9 aG9 aT9 aH9 kS9 n 0 0 0 (-1, aF, aR)).1) ∧ w9 = PlW op xO xW xN xC xA xM xG xT xH xR xF xB xX ob oc cI cZ (nI n) aO aW aN aC aA9 kS9 aM9 aG9 aT9 aH9 ((skM aC aA9 aM9 aG9 aT9 aH9 kS9 n 0 0 0 (-1, aF, aR)).2.2) ((skM aC aA9 aM9 aG9 aT9 aH9 kS9 n 0 0 0 (-1, aF, aR)).2.1) ((skM aC aA9 aM9 aG9 aT9 aH9 kS9 n 0 0 0 (-1, aF, aR)).1) aB kT aX (nI n) f) H locs (F0 m 0 ls []) from body _ _ hP hD hS
  clear hP hD hS
  intro H locs hP hD hS
  refine lv_iconst (v := 0) hx hb dX2_findHeaviest_0 (by decide) ?_
  refine lv_istore_n (lv' := [(2, .int 0), (0, .ref op), (1, .int wo)]) hx hb dX2_findHeaviest_1 rfl hl (by decide) rfl (fun ls hl => ?_)
  suffices loop2 : ∀ (k2 i : Nat) (aA1 : Nat → Int32) (aM1 : Nat → Int32) (aG1 : Nat → Int32) (H : Heap) (locs : List Loc) (ls : Array Slot), i ≤ n → n + 1 ≤ i + k2 → (fhI i aO aW wo aA1 aM1 aG1) → va_P D vwCl (PlW op xO xW xN xC xA xM xG xT xH xR xF xB xX ob oc cI cZ (nI n) aO aW aN aC aA1 kS aM1 aG1 aT aH aR aF kF aB kT aX (nI n) f) H → va_D (wr_in (PlW op xO xW xN xC xA xM xG xT xH xR xF xB xX ob oc cI cZ (nI n) aO aW aN aC aA kS aM aG aT aH aR aF kF aB kT aX (nI n) f)) (PlW op xO xW xN xC xA xM xG xT xH xR xF xB xX ob oc cI cZ (nI n) aO aW aN aC aA1 kS aM1 aG1 aT aH aR aF kF aB kT aX (nI n) f) → va_S (wr_in (PlW op xO xW xN xC xA xM xG xT xH xR xF xB xX ob oc cI cZ (nI n) aO aW aN aC aA kS aM aG aT aH aR aF kF aB kT aX (nI n) f)) s.heap H locs → lv_has ls 4 [(0, .ref op), (1, .int wo), (2, .int (nI i))] → wr_W p l e wsX2_findHeaviest ({ frames := 12, cells := 0, slots := 0, locals := 345 } : Room) s m [.ref op, .int wo] below meth c D (PlW op xO xW xN xC xA xM xG xT xH xR xF xB xX ob oc cI cZ (nI n) aO aW aN aC aA kS aM aG aT aH aR aF kF aB kT aX (nI n) f) (fun v w9 => ∃ (aA9 aM9 aG9 : Nat → Int32), fhI n aO aW wo aA9 aM9 aG9 ∧ ∃ (kS9 : Int32) (aT9 aH9 : Nat → Int32), topOk n aA9 aG9 kS9 aT9 aH9 ∧ v = some (.int (skM aC aA9 aM9 aG9 aT9 aH9 kS9 n 0 0 0 (-1, aF, aR)).1) ∧ w9 = PlW op xO xW xN xC xA xM xG xT xH xR xF xB xX ob oc cI cZ (nI n) aO aW aN aC aA9 kS9 aM9 aG9 aT9 aH9 ((skM aC aA9 aM9 aG9 aT9 aH9 kS9 n 0 0 0 (-1, aF, aR)).2.2) ((skM aC aA9 aM9 aG9 aT9 aH9 kS9 n 0 0 0 (-1, aF, aR)).2.1) ((skM aC aA9 aM9 aG9 aT9 aH9 kS9 n 0 0 0 (-1, aF, aR)).1) aB kT aX (nI n) f) H locs (F0 m 2 ls []) from
    loop2 (n + 1) 0 aA aM aG H locs ls (by omega) (by omega) (by exact fun j hj => absurd hj (by omega)) hP hD hS (lv_sub hl [1, 2, 0] rfl)
  intro k2
  induction k2 with
  | zero => intro i aA1 aM1 aG1 H locs ls h1 h2; exact absurd h2 (by omega)
  | succ k2 ih2 =>
    intro i aA1 aM1 aG1 H locs ls hle2 hlt2 inv2 hP hD hS hl
    refine lv_iload_n hx hb dX2_findHeaviest_2 rfl (lv_at hl 2 rfl) ?_
    refine lv_aload_n hx hb dX2_findHeaviest_3 rfl (lv_at hl 0 rfl) ?_
    refine va_get (D := D) (ci := 2) (v := .int (nI n)) (C := RX2) (T := TX2) (N := 17) hx hb hts hinX2 hown hK hP 0 rfl rfl 0 (by decide) hw9 (fun _ h9 => h9) rfl dX2_findHeaviest_4 ?_
    refine rd_icmp_ge_n (a := i) (b := n) (tgt := 73) (by omega) (by omega) hx hb dX2_findHeaviest_7 (by decide) (fun c_7 => ?_) (fun c_7 => ?_)
    · have c_7n := Nat.not_lt.mpr c_7
      refine lv_aload_n hx hb dX2_findHeaviest_73 rfl (lv_at hl 0 rfl) ?_
      refine wr_callV (As := []) (rest := []) ⟨hx, hb, hml, hown, hts⟩ (c_X2_findTop (P := fun _ _ => 0) l D hn8) (cwV 0 hts gX2_findHeaviest_X2_findTop rfl rfl rfl (by decide +kernel) ⟨by show 11 + 1 ≤ 12; omega, by show 8 + (2 + 11) + (324) ≤ 345; omega⟩) hK hN hZ hP hD hS [0, 1, 2, 3, 4, 5, 6, 7, 8, 9, 10, 11, 12, 13, 14, 15] [0, 1] rfl (by decide) rfl (q0 := 0) rfl rfl rfl hl.1 rfl (Nat.le_of_ble_eq_true rfl) ⟨Nat.zero_le _, Nat.zero_le _⟩ dX2_findHeaviest_74 (fun v9 w9 H locs hp9 hP hD hS => ?_)
      obtain ⟨kS9, aT9, aH9, htop, rfl, rfl⟩ := hp9
      have hP : va_P D vwCl (PlW op xO xW xN xC xA xM xG xT xH xR xF xB xX ob oc cI cZ (nI n) aO aW aN aC aA1 kS9 aM1 aG1 aT9 aH9 ((skM aC aA1 aM1 aG1 aT9 aH9 kS9 n 0 0 0 (-1, aF, aR)).2.2) ((skM aC aA1 aM1 aG1 aT9 aH9 kS9 n 0 0 0 (-1, aF, aR)).2.1) ((skM aC aA1 aM1 aG1 aT9 aH9 kS9 n 0 0 0 (-1, aF, aR)).1) aB kT aX (nI n) f) H := hP
      have hD : va_D (wr_in (PlW op xO xW xN xC xA xM xG xT xH xR xF xB xX ob oc cI cZ (nI n) aO aW aN aC aA kS aM aG aT aH aR aF kF aB kT aX (nI n) f)) (PlW op xO xW xN xC xA xM xG xT xH xR xF xB xX ob oc cI cZ (nI n) aO aW aN aC aA1 kS9 aM1 aG1 aT9 aH9 ((skM aC aA1 aM1 aG1 aT9 aH9 kS9 n 0 0 0 (-1, aF, aR)).2.2) ((skM aC aA1 aM1 aG1 aT9 aH9 kS9 n 0 0 0 (-1, aF, aR)).2.1) ((skM aC aA1 aM1 aG1 aT9 aH9 kS9 n 0 0 0 (-1, aF, aR)).1) aB kT aX (nI n) f) := hD
      refine W.eq (g2 := F0 m 77 ls [.int ((skM aC aA1 aM1 aG1 aT9 aH9 kS9 n 0 0 0 (-1, aF, aR)).1)]) rfl ?_
      exact wr_iret hx hb hr hlocks hP hS rfl dX2_findHeaviest_77 (by exact ⟨_, _, _, (fun j hj => inv2 j (by omega)), kS9, aT9, aH9, htop, rfl, rfl⟩)
    · have c_7n := Nat.not_le.mpr c_7
      refine lv_aload_n hx hb dX2_findHeaviest_10 rfl (lv_at hl 0 rfl) ?_
      refine va_get (D := D) (ci := 2) (v := .ref xA) (C := RX2) (T := TX2) (N := 17) hx hb hts hinX2 hown hK hP 0 rfl rfl 5 (by decide) hw28 (fun _ h9 => h9) rfl dX2_findHeaviest_11 ?_
      refine lv_iload_n hx hb dX2_findHeaviest_14 rfl (lv_at hl 2 rfl) ?_
      suffices j30 : ∀ ls : Array Slot, lv_has ls 4 [(0, .ref op), (1, .int wo), (2, .int (nI i))] → wr_W p l e wsX2_findHeaviest ({ frames := 12, cells := 0, slots := 0, locals := 345 } : Room) s m [.ref op, .int wo] below meth c D (PlW op xO xW xN xC xA xM xG xT xH xR xF xB xX ob oc cI cZ (nI n) aO aW aN aC aA kS aM aG aT aH aR aF kF aB kT aX (nI n) f) (fun v w9 => ∃ (aA9 aM9 aG9 : Nat → Int32), fhI n aO aW wo aA9 aM9 aG9 ∧ ∃ (kS9 : Int32) (aT9 aH9 : Nat → Int32), topOk n aA9 aG9 kS9 aT9 aH9 ∧ v = some (.int (skM aC aA9 aM9 aG9 aT9 aH9 kS9 n 0 0 0 (-1, aF, aR)).1) ∧ w9 = PlW op xO xW xN xC xA xM xG xT xH xR xF xB xX ob oc cI cZ (nI n) aO aW aN aC aA9 kS9 aM9 aG9 aT9 aH9 ((skM aC aA9 aM9 aG9 aT9 aH9 kS9 n 0 0 0 (-1, aF, aR)).2.2) ((skM aC aA9 aM9 aG9 aT9 aH9 kS9 n 0 0 0 (-1, aF, aR)).2.1) ((skM aC aA9 aM9 aG9 aT9 aH9 kS9 n 0 0 0 (-1, aF, aR)).1) aB kT aX (nI n) f) H locs (F0 m 30 ls [.int (if nI i = wo then 0 else aO i), .int (nI i), .ref xA]) by
        refine lv_iload_n hx hb dX2_findHeaviest_15 rfl (lv_at hl 2 rfl) ?_
        refine lv_iload_n hx hb dX2_findHeaviest_16 rfl (lv_at hl 1 rfl) ?_
        refine lv_icmp_ne (tgt := 24) hx hb dX2_findHeaviest_17 (by decide) (fun c_17 => ?_) (fun c_17 => ?_)
        · refine lv_aload_n hx hb dX2_findHeaviest_24 rfl (lv_at hl 0 rfl) ?_
          refine va_get (D := D) (ci := 2) (v := .ref xO) (C := RX2) (T := TX2) (N := 17) hx hb hts hinX2 hown hK hP 0 rfl rfl 1 (by decide) hw15 (fun _ h9 => h9) rfl dX2_findHeaviest_25 ?_
          refine lv_iload_n hx hb dX2_findHeaviest_28 rfl (lv_at hl 2 rfl) ?_
          refine rd_ald (q0 := 1) (t0 := 0) (j := i) (v := aO i) hx hb hK hP rfl rfl (rfl) (by omega) (by decide) (rfl) dX2_findHeaviest_29 ?_
          refine lv_asi (y := if nI i = wo then 0 else aO i) (by simp [c_17]) ?_
          exact j30 ls (lv_sub hl [0, 1, 2] rfl)
        · refine lv_iconst (v := 0) hx hb dX2_findHeaviest_20 (by decide) ?_
          refine lv_goto (tgt := 30) hx hb dX2_findHeaviest_21 (by decide) ?_
          refine lv_asi (y := if nI i = wo then 0 else aO i) (by simp [c_17]) ?_
          exact j30 ls (lv_sub hl [0, 1, 2] rfl)
      intro ls hl
      refine wr_ast (q0 := 5) (t0 := 0) (j := i) hx hb hK hP hD hS rfl rfl (rfl) (by omega) (by decide) dX2_findHeaviest_30 (fun H locs hP hD hS => ?_)
      obtain ⟨aA_30, eaA_30⟩ : ∃ zz9 : Nat → Int32, zz9 = upd aA1 i (if nI i = wo then 0 else aO i) := ⟨_, rfl⟩
      rw [← eaA_30] at hP hD
      have hP : va_P D vwCl (PlW op xO xW xN xC xA xM xG xT xH xR xF xB xX ob oc cI cZ (nI n) aO aW aN aC aA_30 kS aM1 aG1 aT aH aR aF kF aB kT aX (nI n) f) H := hP
      have hD : va_D (wr_in (PlW op xO xW xN xC xA xM xG xT xH xR xF xB xX ob oc cI cZ (nI n) aO aW aN aC aA kS aM aG aT aH aR aF kF aB kT aX (nI n) f)) (PlW op xO xW xN xC xA xM xG xT xH xR xF xB xX ob oc cI cZ (nI n) aO aW aN aC aA_30 kS aM1 aG1 aT aH aR aF kF aB kT aX (nI n) f) := hD
      refine lv_aload_n hx hb dX2_findHeaviest_31 rfl (lv_at hl 0 rfl) ?_
      refine va_get (D := D) (ci := 2) (v := .ref xM) (C := RX2) (T := TX2) (N := 17) hx hb hts hinX2 hown hK hP 0 rfl rfl 7 (by decide) hw34 (fun _ h9 => h9) rfl dX2_findHeaviest_32 ?_
      refine lv_iload_n hx hb dX2_findHeaviest_35 rfl (lv_at hl 2 rfl) ?_
      refine lv_iconst (v := 1) hx hb dX2_findHeaviest_36 (by decide) ?_
      refine wr_zst (x := true) (q0 := 6) (t0 := 1) (j := i) hx hb hK hP hD hS rfl rfl (rfl) (by omega) (by decide) dX2_findHeaviest_37 (fun H locs hP hD hS => ?_)
      obtain ⟨aM_37, eaM_37⟩ : ∃ zz9 : Nat → Int32, zz9 = upd aM1 i (bI true) := ⟨_, rfl⟩
      rw [← eaM_37] at hP hD
      have hP : va_P D vwCl (PlW op xO xW xN xC xA xM xG xT xH xR xF xB xX ob oc cI cZ (nI n) aO aW aN aC aA_30 kS aM_37 aG1 aT aH aR aF kF aB kT aX (nI n) f) H := hP
      have hD : va_D (wr_in (PlW op xO xW xN xC xA xM xG xT xH xR xF xB xX ob oc cI cZ (nI n) aO aW aN aC aA kS aM aG aT aH aR aF kF aB kT aX (nI n) f)) (PlW op xO xW xN xC xA xM xG xT xH xR xF xB xX ob oc cI cZ (nI n) aO aW aN aC aA_30 kS aM_37 aG1 aT aH aR aF kF aB kT aX (nI n) f) := hD
      refine lv_iconst (v := 0) hx hb dX2_findHeaviest_38 (by decide) ?_
      refine lv_istore_n (lv' := [(3, .int 0), (0, .ref op), (1, .int wo), (2, .int (nI i))]) hx hb dX2_findHeaviest_39 rfl hl (by decide) rfl (fun ls hl => ?_)
      suffices loop40 : ∀ (k40 k : Nat) (aG2 : Nat → Int32) (H : Heap) (locs : List Loc) (ls : Array Slot), k ≤ 4 → 4 + 1 ≤ k + k40 → (fhG i k (aW i) aG1 aG2) → va_P D vwCl (PlW op xO xW xN xC xA xM xG xT xH xR xF xB xX ob oc cI cZ (nI n) aO aW aN aC aA_30 kS aM_37 aG2 aT aH aR aF kF aB kT aX (nI n) f) H → va_D (wr_in (PlW op xO xW xN xC xA xM xG xT xH xR xF xB xX ob oc cI cZ (nI n) aO aW aN aC aA kS aM aG aT aH aR aF kF aB kT aX (nI n) f)) (PlW op xO xW xN xC xA xM xG xT xH xR xF xB xX ob oc cI cZ (nI n) aO aW aN aC aA_30 kS aM_37 aG2 aT aH aR aF kF aB kT aX (nI n) f) → va_S (wr_in (PlW op xO xW xN xC xA xM xG xT xH xR xF xB xX ob oc cI cZ (nI n) aO aW aN aC aA kS aM aG aT aH aR aF kF aB kT aX (nI n) f)) s.heap H locs → lv_has ls 4 [(0, .ref op), (1, .int wo), (2, .int (nI i)), (3, .int (nI k))] → wr_W p l e wsX2_findHeaviest ({ frames := 12, cells := 0, slots := 0, locals := 345 } : Room) s m [.ref op, .int wo] below meth c D (PlW op xO xW xN xC xA xM xG xT xH xR xF xB xX ob oc cI cZ (nI n) aO aW aN aC aA kS aM aG aT aH aR aF kF aB kT aX (nI n) f) (fun v w9 => ∃ (aA9 aM9 aG9 : Nat → Int32), fhI n aO aW wo aA9 aM9 aG9 ∧ ∃ (kS9 : Int32) (aT9 aH9 : Nat → Int32), topOk n aA9 aG9 kS9 aT9 aH9 ∧ v = some (.int (skM aC aA9 aM9 aG9 aT9 aH9 kS9 n 0 0 0 (-1, aF, aR)).1) ∧ w9 = PlW op xO xW xN xC xA xM xG xT xH xR xF xB xX ob oc cI cZ (nI n) aO aW aN aC aA9 kS9 aM9 aG9 aT9 aH9 ((skM aC aA9 aM9 aG9 aT9 aH9 kS9 n 0 0 0 (-1, aF, aR)).2.2) ((skM aC aA9 aM9 aG9 aT9 aH9 kS9 n 0 0 0 (-1, aF, aR)).2.1) ((skM aC aA9 aM9 aG9 aT9 aH9 kS9 n 0 0 0 (-1, aF, aR)).1) aB kT aX (nI n) f) H locs (F0 m 40 ls []) from
        loop40 (4 + 1) 0 aG1 H locs ls (by omega) (by omega) (by exact fhG_init) hP hD hS (lv_sub hl [1, 2, 3, 0] rfl)
      intro k40
      induction k40 with
      | zero => intro k aG2 H locs ls h1 h2; exact absurd h2 (by omega)
      | succ k40 ih40 =>
        intro k aG2 H locs ls hle40 hlt40 inv40 hP hD hS hl
        refine lv_iload_n hx hb dX2_findHeaviest_40 rfl (lv_at hl 3 rfl) ?_
        refine lv_iconst (v := 4) hx hb dX2_findHeaviest_41 (by decide) ?_
        refine rd_icmp_ge_n (a := k) (b := 4) (tgt := 67) (by omega) (by omega) hx hb dX2_findHeaviest_42 (by decide) (fun c_42 => ?_) (fun c_42 => ?_)
        · have c_42n := Nat.not_lt.mpr c_42
          refine lv_iinc (v := nI (i + 1)) (lv' := [(2, .int (nI (i + 1))), (0, .ref op), (1, .int wo), (3, .int (nI k))]) hx hb dX2_findHeaviest_67 hl (k := 2) rfl (nI_add i 1) (by decide) rfl (fun ls hl => ?_)
          refine lv_goto (tgt := 2) hx hb dX2_findHeaviest_70 (by decide) ?_
          exact ih2 (i + 1) aA_30 aM_37 aG2 H locs ls (by omega) (by omega) (by exact fhI_step inv2 eaA_30 eaM_37 c_42 (by omega) inv40) hP hD hS (lv_sub hl [1, 2, 0] rfl)
        · have c_42n := Nat.not_le.mpr c_42
          refine lv_aload_n hx hb dX2_findHeaviest_45 rfl (lv_at hl 0 rfl) ?_
          refine va_get (D := D) (ci := 2) (v := .ref xG) (C := RX2) (T := TX2) (N := 17) hx hb hts hinX2 hown hK hP 0 rfl rfl 8 (by decide) hw38 (fun _ h9 => h9) rfl dX2_findHeaviest_46 ?_
          refine lv_iload_n hx hb dX2_findHeaviest_49 rfl (lv_at hl 2 rfl) ?_
          refine lv_iconst (v := 4) hx hb dX2_findHeaviest_50 (by decide) ?_
          refine lv_imul hx hb dX2_findHeaviest_51 ?_
          refine lv_asi (y := nI (i * 4)) (pk_mul i 4) ?_
          refine lv_iload_n hx hb dX2_findHeaviest_52 rfl (lv_at hl 3 rfl) ?_
          refine lv_iadd hx hb dX2_findHeaviest_53 ?_
          refine lv_asi (y := nI ((i * 4) + k)) (nI_add (i * 4) k) ?_
          refine lv_aload_n hx hb dX2_findHeaviest_54 rfl (lv_at hl 0 rfl) ?_
          refine va_get (D := D) (ci := 2) (v := .ref xW) (C := RX2) (T := TX2) (N := 17) hx hb hts hinX2 hown hK hP 0 rfl rfl 2 (by decide) hw19 (fun _ h9 => h9) rfl dX2_findHeaviest_55 ?_
          refine lv_iload_n hx hb dX2_findHeaviest_58 rfl (lv_at hl 2 rfl) ?_
          refine rd_ald (q0 := 2) (t0 := 0) (j := i) (v := aW i) hx hb hK hP rfl rfl (rfl) (by omega) (by decide) (rfl) dX2_findHeaviest_59 ?_
          refine wr_ast (q0 := 7) (t0 := 0) (j := (i * 4) + k) hx hb hK hP hD hS rfl rfl (rfl) (by omega) (by decide) dX2_findHeaviest_60 (fun H locs hP hD hS => ?_)
          obtain ⟨aG_60, eaG_60⟩ : ∃ zz9 : Nat → Int32, zz9 = upd aG2 ((i * 4) + k) (aW i) := ⟨_, rfl⟩
          rw [← eaG_60] at hP hD
          have hP : va_P D vwCl (PlW op xO xW xN xC xA xM xG xT xH xR xF xB xX ob oc cI cZ (nI n) aO aW aN aC aA_30 kS aM_37 aG_60 aT aH aR aF kF aB kT aX (nI n) f) H := hP
          have hD : va_D (wr_in (PlW op xO xW xN xC xA xM xG xT xH xR xF xB xX ob oc cI cZ (nI n) aO aW aN aC aA kS aM aG aT aH aR aF kF aB kT aX (nI n) f)) (PlW op xO xW xN xC xA xM xG xT xH xR xF xB xX ob oc cI cZ (nI n) aO aW aN aC aA_30 kS aM_37 aG_60 aT aH aR aF kF aB kT aX (nI n) f) := hD
          refine lv_iinc (v := nI (k + 1)) (lv' := [(3, .int (nI (k + 1))), (0, .ref op), (1, .int wo), (2, .int (nI i))]) hx hb dX2_findHeaviest_61 hl (k := 3) rfl (nI_add k 1) (by decide) rfl (fun ls hl => ?_)
          refine lv_goto (tgt := 40) hx hb dX2_findHeaviest_64 (by decide) ?_
          exact ih40 (k + 1) aG_60 H locs ls (by omega) (by omega) (by exact fhG_step inv40 eaG_60) hP hD hS (lv_sub hl [1, 2, 3, 0] rfl)
set_option maxHeartbeats 4000000 in
set_option maxRecDepth 100000 in
theorem c_X2_findRoom (l : Launch) (D : va_G) {op xO xW xN xC xA xM xG xT xH xR xF xB xX ob oc : Nat} {cI : ClassId} {cZ : ClassId} {n : Nat} {P : Nat → Nat → Int32} {kS kF kT : Int32} {aO aW aN aC aA aM aG aT aH aR aF aB aX f : Nat → Int32} (hn8 : n ≤ 8) {wt : Nat} (hwt : wt < n) : wr_M l yX2_findRoom wsX2_findRoom ({ frames := 12, cells := 0, slots := 0, locals := 345 } : Room) D (PlW op xO xW xN xC xA xM xG xT xH xR xF xB xX ob oc cI cZ (nI n) aO aW aN aC aA kS aM aG aT aH aR aF kF aB kT aX (nI n) f) [(cI, .int), (cZ, .boolean)] [.ref op, .int (nI wt)] (fun v w9 => (¬ aN wt = -1 ∧ v = some (.int (-1)) ∧ w9 = PlW op xO xW xN xC xA xM xG xT xH xR xF xB xX ob oc cI cZ (nI n) aO aW aN aC aA kS aM aG aT aH aR aF kF aB kT aX (nI n) f) ∨ (aN wt = -1 ∧ ∃ (aA9 aM9 aG9 : Nat → Int32), frI n aO aN wt aA9 aM9 aG9 ∧ ∃ (kS9 : Int32) (aT9 aH9 : Nat → Int32), topOk n aA9 aG9 kS9 aT9 aH9 ∧ v = some (.int (if (skM aC aA9 aM9 aG9 aT9 aH9 kS9 n 0 0 0 (-1, aF, aR)).1 = -1 then -1 else gF n (frNF aN) 0 0 - (skM aC aA9 aM9 aG9 aT9 aH9 kS9 n 0 0 0 (-1, aF, aR)).1)) ∧ w9 = PlW op xO xW xN xC xA xM xG xT xH xR xF xB xX ob oc cI cZ (nI n) aO aW aN aC aA9 kS9 aM9 aG9 aT9 aH9 ((skM aC aA9 aM9 aG9 aT9 aH9 kS9 n 0 0 0 (-1, aF, aR)).2.2) ((skM aC aA9 aM9 aG9 aT9 aH9 kS9 n 0 0 0 (-1, aF, aR)).2.1) ((skM aC aA9 aM9 aG9 aT9 aH9 kS9 n 0 0 0 (-1, aF, aR)).1) aB kT aX (nI n) f)) := by
  refine wr_of (cc := cX2_findRoom) (maxL := 6) (ret := some .int) (by decide) rfl (Nat.le_of_ble_eq_true rfl) ?_
  intro p e s m below meth c hx hb hr hml hts hown hlocks hP hK hN hZ hD hS ls hl
  have hown : s.vm.findClass RX2 = some m.cls := hown
  have hl : lv_has ls 6 [(0, .ref op), (1, .int (nI wt))] := hl
  have hinX2 : ∀ w ∈ u_ws RX2 TX2 17, w ∈ wsX2_findRoom := by decide +kernel
  have hw22 := hts (.fieldLink RX2 22 "CornerLabels$Plans" "now" "[I") (by decide +kernel)
  have hw9 := hts (.fieldLink RX2 9 "CornerLabels$Plans" "points" "I") (by decide +kernel)
  have hw28 := hts (.fieldLink RX2 28 "CornerLabels$Plans" "allowed" "[I") (by decide +kernel)
  have hw15 := hts (.fieldLink RX2 15 "CornerLabels$Plans" "open" "[I") (by decide +kernel)
  have hw34 := hts (.fieldLink RX2 34 "CornerLabels$Plans" "mayDrop" "[Z") (by decide +kernel)
  have hw38 := hts (.fieldLink RX2 38 "CornerLabels$Plans" "gain" "[I") (by decide +kernel)
  suffices body : ∀ (H : Heap) (locs : List Loc), va_P D vwCl (PlW op xO xW xN xC xA xM xG xT xH xR xF xB xX ob oc cI cZ (nI n) aO aW aN aC aA kS aM aG aT aH aR aF kF aB kT aX (nI n) f) H → va_D (wr_in (PlW op xO xW xN xC xA xM xG xT xH xR xF xB xX ob oc cI cZ (nI n) aO aW aN aC aA kS aM aG aT aH aR aF kF aB kT aX (nI n) f)) (PlW op xO xW xN xC xA xM xG xT xH xR xF xB xX ob oc cI cZ (nI n) aO aW aN aC aA kS aM aG aT aH aR aF kF aB kT aX (nI n) f) → va_S (wr_in (PlW op xO xW xN xC xA xM xG xT xH xR xF xB xX ob oc cI cZ (nI n) aO aW aN aC aA kS aM aG aT aH aR aF kF aB kT aX (nI n) f)) s.heap H locs → wr_W p l e wsX2_findRoom ({ frames := 12, cells := 0, slots := 0, locals := 345 } : Room) s m [.ref op, .int (nI wt)] below meth c D (PlW op xO xW xN xC xA xM xG xT xH xR xF xB xX ob oc cI cZ (nI n) aO aW aN aC aA kS aM aG aT aH aR aF kF aB kT aX (nI n) f) (fun v w9 => (¬ aN wt = -1 ∧ v = some (.int (-1)) ∧ w9 = PlW op xO xW xN xC xA xM xG xT xH xR xF xB xX ob oc cI cZ (nI n) aO aW aN aC aA kS aM aG aT aH aR aF kF aB kT aX (nI n) f) ∨ (aN wt = -1 ∧ ∃ (aA9 aM9 aG9 : Nat → Int32), frI n aO aN wt aA9 aM9 aG9 ∧ ∃ (kS9 : Int32) (aT9 aH9 : Nat → Int32), topOk n aA9 aG9 kS9 aT9 aH9 ∧ v = some (.int (if (skM aC aA9 aM9 aG9 aT9 aH9 kS9 n 0 0 0 (-1, aF, aR)).1 = -1 then -1 else gF n (frNF aN) 0 0 - (skM aC aA9 aM9 aG9 aT9 aH9 kS9 n 0 0 0 (-1, aF, aR)).1)) ∧ w9 = PlW op xO xW xN xC xA xM xG xT xH xR xF xB xX ob oc cI cZ (nI n) aO aW aN aC aA9 kS9 aM9 aG9 aT9 aH9 ((skM aC aA9 aM9 aG9 aT9 aH9 kS9 n 0 0 0 (-1, aF, aR)).2.2) ((skM aC aA9 aM9 aG9 aT9 aH9 kS9 n 0 0 0 (-1, aF, aR)).2.1) ((skM aC aA9 aM9 aG9 aT9 aH9 kS9 n 0 0 0 (-1, aF, aR)).1) aB kT aX (nI n) f)) H locs (F0 m 0 ls []) from body _ _ hP hD hS
  clear hP hD hS
  intro H locs hP hD hS
  refine lv_aload_n hx hb dX2_findRoom_0 rfl (lv_at hl 0 rfl) ?_
  refine va_get (D := D) (ci := 2) (v := .ref xN) (C := RX2) (T := TX2) (N := 17) hx hb hts hinX2 hown hK hP 0 rfl rfl 3 (by decide) hw22 (fun _ h9 => h9) rfl dX2_findRoom_1 ?_
  refine lv_iload_n hx hb dX2_findRoom_4 rfl (lv_at hl 1 rfl) ?_
  refine rd_ald (q0 := 3) (t0 := 0) (j := wt) (v := aN wt) hx hb hK hP rfl rfl (rfl) (by omega) (by decide) (rfl) dX2_findRoom_5 ?_
  refine lv_iconst (v := (-1)) hx hb dX2_findRoom_6 (by decide) ?_
  refine lv_icmp_eq (tgt := 12) hx hb dX2_findRoom_7 (by decide) (fun c_7 => ?_) (fun c_7 => ?_)
  · refine lv_iconst (v := 0) hx hb dX2_findRoom_12 (by decide) ?_
    refine lv_istore_n (lv' := [(2, .int 0), (0, .ref op), (1, .int (nI wt))]) hx hb dX2_findRoom_13 rfl hl (by decide) rfl (fun ls hl => ?_)
    refine lv_iconst (v := 0) hx hb dX2_findRoom_14 (by decide) ?_
    refine lv_istore_n (lv' := [(3, .int 0), (2, .int 0), (0, .ref op), (1, .int (nI wt))]) hx hb dX2_findRoom_15 rfl hl (by decide) rfl (fun ls hl => ?_)
    suffices loop16 : ∀ (k16 i : Nat) (a : Int32) (aA1 : Nat → Int32) (aM1 : Nat → Int32) (aG1 : Nat → Int32) (H : Heap) (locs : List Loc) (ls : Array Slot), i ≤ n → n + 1 ≤ i + k16 → (frI i aO aN wt aA1 aM1 aG1 ∧ gF n (frNF aN) 0 0 = gF n (frNF aN) i a) → va_P D vwCl (PlW op xO xW xN xC xA xM xG xT xH xR xF xB xX ob oc cI cZ (nI n) aO aW aN aC aA1 kS aM1 aG1 aT aH aR aF kF aB kT aX (nI n) f) H → va_D (wr_in (PlW op xO xW xN xC xA xM xG xT xH xR xF xB xX ob oc cI cZ (nI n) aO aW aN aC aA kS aM aG aT aH aR aF kF aB kT aX (nI n) f)) (PlW op xO xW xN xC xA xM xG xT xH xR xF xB xX ob oc cI cZ (nI n) aO aW aN aC aA1 kS aM1 aG1 aT aH aR aF kF aB kT aX (nI n) f) → va_S (wr_in (PlW op xO xW xN xC xA xM xG xT xH xR xF xB xX ob oc cI cZ (nI n) aO aW aN aC aA kS aM aG aT aH aR aF kF aB kT aX (nI n) f)) s.heap H locs → lv_has ls 6 [(0, .ref op), (1, .int (nI wt)), (2, .int a), (3, .int (nI i))] → wr_W p l e wsX2_findRoom ({ frames := 12, cells := 0, slots := 0, locals := 345 } : Room) s m [.ref op, .int (nI wt)] below meth c D (PlW op xO xW xN xC xA xM xG xT xH xR xF xB xX ob oc cI cZ (nI n) aO aW aN aC aA kS aM aG aT aH aR aF kF aB kT aX (nI n) f) (fun v w9 => (¬ aN wt = -1 ∧ v = some (.int (-1)) ∧ w9 = PlW op xO xW xN xC xA xM xG xT xH xR xF xB xX ob oc cI cZ (nI n) aO aW aN aC aA kS aM aG aT aH aR aF kF aB kT aX (nI n) f) ∨ (aN wt = -1 ∧ ∃ (aA9 aM9 aG9 : Nat → Int32), frI n aO aN wt aA9 aM9 aG9 ∧ ∃ (kS9 : Int32) (aT9 aH9 : Nat → Int32), topOk n aA9 aG9 kS9 aT9 aH9 ∧ v = some (.int (if (skM aC aA9 aM9 aG9 aT9 aH9 kS9 n 0 0 0 (-1, aF, aR)).1 = -1 then -1 else gF n (frNF aN) 0 0 - (skM aC aA9 aM9 aG9 aT9 aH9 kS9 n 0 0 0 (-1, aF, aR)).1)) ∧ w9 = PlW op xO xW xN xC xA xM xG xT xH xR xF xB xX ob oc cI cZ (nI n) aO aW aN aC aA9 kS9 aM9 aG9 aT9 aH9 ((skM aC aA9 aM9 aG9 aT9 aH9 kS9 n 0 0 0 (-1, aF, aR)).2.2) ((skM aC aA9 aM9 aG9 aT9 aH9 kS9 n 0 0 0 (-1, aF, aR)).2.1) ((skM aC aA9 aM9 aG9 aT9 aH9 kS9 n 0 0 0 (-1, aF, aR)).1) aB kT aX (nI n) f)) H locs (F0 m 16 ls []) from
      loop16 (n + 1) 0 0 aA aM aG H locs ls (by omega) (by omega) (by exact ⟨fun j hj => absurd hj (by omega), rfl⟩) hP hD hS (lv_sub hl [2, 3, 1, 0] rfl)
    intro k16
    induction k16 with
    | zero => intro i a aA1 aM1 aG1 H locs ls h1 h2; exact absurd h2 (by omega)
    | succ k16 ih16 =>
      intro i a aA1 aM1 aG1 H locs ls hle16 hlt16 inv16 hP hD hS hl
      refine lv_iload_n hx hb dX2_findRoom_16 rfl (lv_at hl 3 rfl) ?_
      refine lv_aload_n hx hb dX2_findRoom_17 rfl (lv_at hl 0 rfl) ?_
      refine va_get (D := D) (ci := 2) (v := .int (nI n)) (C := RX2) (T := TX2) (N := 17) hx hb hts hinX2 hown hK hP 0 rfl rfl 0 (by decide) hw9 (fun _ h9 => h9) rfl dX2_findRoom_18 ?_
      refine rd_icmp_ge_n (a := i) (b := n) (tgt := 149) (by omega) (by omega) hx hb dX2_findRoom_21 (by decide) (fun c_21 => ?_) (fun c_21 => ?_)
      · have c_21n := Nat.not_lt.mpr c_21
        refine lv_aload_n hx hb dX2_findRoom_149 rfl (lv_at hl 0 rfl) ?_
        refine wr_callV (As := []) (rest := []) ⟨hx, hb, hml, hown, hts⟩ (c_X2_findTop (P := fun _ _ => 0) l D hn8) (cwV 0 hts gX2_findRoom_X2_findTop rfl rfl rfl (by decide +kernel) ⟨by show 11 + 1 ≤ 12; omega, by show 8 + (2 + 11) + (324) ≤ 345; omega⟩) hK hN hZ hP hD hS [0, 1, 2, 3, 4, 5, 6, 7, 8, 9, 10, 11, 12, 13, 14, 15] [0, 1] rfl (by decide) rfl (q0 := 0) rfl rfl rfl hl.1 rfl (Nat.le_of_ble_eq_true rfl) ⟨Nat.zero_le _, Nat.zero_le _⟩ dX2_findRoom_150 (fun v9 w9 H locs hp9 hP hD hS => ?_)
        obtain ⟨kS9, aT9, aH9, htop, rfl, rfl⟩ := hp9
        have hP : va_P D vwCl (PlW op xO xW xN xC xA xM xG xT xH xR xF xB xX ob oc cI cZ (nI n) aO aW aN aC aA1 kS9 aM1 aG1 aT9 aH9 ((skM aC aA1 aM1 aG1 aT9 aH9 kS9 n 0 0 0 (-1, aF, aR)).2.2) ((skM aC aA1 aM1 aG1 aT9 aH9 kS9 n 0 0 0 (-1, aF, aR)).2.1) ((skM aC aA1 aM1 aG1 aT9 aH9 kS9 n 0 0 0 (-1, aF, aR)).1) aB kT aX (nI n) f) H := hP
        have hD : va_D (wr_in (PlW op xO xW xN xC xA xM xG xT xH xR xF xB xX ob oc cI cZ (nI n) aO aW aN aC aA kS aM aG aT aH aR aF kF aB kT aX (nI n) f)) (PlW op xO xW xN xC xA xM xG xT xH xR xF xB xX ob oc cI cZ (nI n) aO aW aN aC aA1 kS9 aM1 aG1 aT9 aH9 ((skM aC aA1 aM1 aG1 aT9 aH9 kS9 n 0 0 0 (-1, aF, aR)).2.2) ((skM aC aA1 aM1 aG1 aT9 aH9 kS9 n 0 0 0 (-1, aF, aR)).2.1) ((skM aC aA1 aM1 aG1 aT9 aH9 kS9 n 0 0 0 (-1, aF, aR)).1) aB kT aX (nI n) f) := hD
        refine W.eq (g2 := F0 m 153 ls [.int ((skM aC aA1 aM1 aG1 aT9 aH9 kS9 n 0 0 0 (-1, aF, aR)).1)]) rfl ?_
        refine lv_istore_n (lv' := [(3, .int ((skM aC aA1 aM1 aG1 aT9 aH9 kS9 n 0 0 0 (-1, aF, aR)).1)), (0, .ref op), (1, .int (nI wt)), (2, .int a)]) hx hb dX2_findRoom_153 rfl hl (by decide) rfl (fun ls hl => ?_)
        refine lv_iload_n hx hb dX2_findRoom_154 rfl (lv_at hl 0 rfl) ?_
        refine lv_iconst (v := (-1)) hx hb dX2_findRoom_155 (by decide) ?_
        refine lv_icmp_ne (tgt := 163) hx hb dX2_findRoom_156 (by decide) (fun c_156 => ?_) (fun c_156 => ?_)
        · refine lv_iload_n hx hb dX2_findRoom_163 rfl (lv_at hl 3 rfl) ?_
          refine lv_iload_n hx hb dX2_findRoom_164 rfl (lv_at hl 0 rfl) ?_
          refine lv_isub hx hb dX2_findRoom_165 ?_
          exact wr_iret hx hb hr hlocks hP hS rfl dX2_findRoom_166 (by exact Or.inr ⟨c_7, _, _, _, (fun j hj => inv16.1 j (by omega)), kS9, aT9, aH9, htop, by rw [inv16.2, gF_end c_21]; simp [c_156], rfl⟩)
        · refine lv_iconst (v := (-1)) hx hb dX2_findRoom_159 (by decide) ?_
          refine lv_goto (tgt := 166) hx hb dX2_findRoom_160 (by decide) ?_
          exact wr_iret hx hb hr hlocks hP hS rfl dX2_findRoom_166 (by exact Or.inr ⟨c_7, _, _, _, (fun j hj => inv16.1 j (by omega)), kS9, aT9, aH9, htop, by rw [inv16.2, gF_end c_21]; simp [c_156], rfl⟩)
      · have c_21n := Nat.not_le.mpr c_21
        suffices j44 : ∀ ls : Array Slot, lv_has ls 6 [(0, .ref op), (1, .int (nI wt)), (2, .int a), (3, .int (nI i))] → wr_W p l e wsX2_findRoom ({ frames := 12, cells := 0, slots := 0, locals := 345 } : Room) s m [.ref op, .int (nI wt)] below meth c D (PlW op xO xW xN xC xA xM xG xT xH xR xF xB xX ob oc cI cZ (nI n) aO aW aN aC aA kS aM aG aT aH aR aF kF aB kT aX (nI n) f) (fun v w9 => (¬ aN wt = -1 ∧ v = some (.int (-1)) ∧ w9 = PlW op xO xW xN xC xA xM xG xT xH xR xF xB xX ob oc cI cZ (nI n) aO aW aN aC aA kS aM aG aT aH aR aF kF aB kT aX (nI n) f) ∨ (aN wt = -1 ∧ ∃ (aA9 aM9 aG9 : Nat → Int32), frI n aO aN wt aA9 aM9 aG9 ∧ ∃ (kS9 : Int32) (aT9 aH9 : Nat → Int32), topOk n aA9 aG9 kS9 aT9 aH9 ∧ v = some (.int (if (skM aC aA9 aM9 aG9 aT9 aH9 kS9 n 0 0 0 (-1, aF, aR)).1 = -1 then -1 else gF n (frNF aN) 0 0 - (skM aC aA9 aM9 aG9 aT9 aH9 kS9 n 0 0 0 (-1, aF, aR)).1)) ∧ w9 = PlW op xO xW xN xC xA xM xG xT xH xR xF xB xX ob oc cI cZ (nI n) aO aW aN aC aA9 kS9 aM9 aG9 aT9 aH9 ((skM aC aA9 aM9 aG9 aT9 aH9 kS9 n 0 0 0 (-1, aF, aR)).2.2) ((skM aC aA9 aM9 aG9 aT9 aH9 kS9 n 0 0 0 (-1, aF, aR)).2.1) ((skM aC aA9 aM9 aG9 aT9 aH9 kS9 n 0 0 0 (-1, aF, aR)).1) aB kT aX (nI n) f)) H locs (F0 m 44 ls [.int (bI (frS aN wt i))]) by
          refine lv_iload_n hx hb dX2_findRoom_24 rfl (lv_at hl 3 rfl) ?_
          refine lv_iload_n hx hb dX2_findRoom_25 rfl (lv_at hl 1 rfl) ?_
          refine rd_icmp_eq_n (a := i) (b := wt) (tgt := 39) (by omega) (by omega) hx hb dX2_findRoom_26 (by decide) (fun c_26 => ?_) (fun c_26 => ?_)
          · refine lv_iconst (v := 1) hx hb dX2_findRoom_39 (by decide) ?_
            refine lv_goto (tgt := 44) hx hb dX2_findRoom_40 (by decide) ?_
            refine lv_asi (y := bI (frS aN wt i)) (by simp [frS, bI, c_26]) ?_
            exact j44 ls (lv_sub hl [0, 1, 2, 3] rfl)
          · refine lv_aload_n hx hb dX2_findRoom_29 rfl (lv_at hl 0 rfl) ?_
            refine va_get (D := D) (ci := 2) (v := .ref xN) (C := RX2) (T := TX2) (N := 17) hx hb hts hinX2 hown hK hP 0 rfl rfl 3 (by decide) hw22 (fun _ h9 => h9) rfl dX2_findRoom_30 ?_
            refine lv_iload_n hx hb dX2_findRoom_33 rfl (lv_at hl 3 rfl) ?_
            refine rd_ald (q0 := 3) (t0 := 0) (j := i) (v := aN i) hx hb hK hP rfl rfl (rfl) (by omega) (by decide) (rfl) dX2_findRoom_34 ?_
            refine lv_iconst (v := (-1)) hx hb dX2_findRoom_35 (by decide) ?_
            refine lv_icmp_eq (tgt := 43) hx hb dX2_findRoom_36 (by decide) (fun c_36 => ?_) (fun c_36 => ?_)
            · refine lv_iconst (v := 0) hx hb dX2_findRoom_43 (by decide) ?_
              refine lv_asi (y := bI (frS aN wt i)) (by simp [frS, bI, c_26, c_36]) ?_
              exact j44 ls (lv_sub hl [0, 1, 2, 3] rfl)
            · refine lv_iconst (v := 1) hx hb dX2_findRoom_39 (by decide) ?_
              refine lv_goto (tgt := 44) hx hb dX2_findRoom_40 (by decide) ?_
              refine lv_asi (y := bI (frS aN wt i)) (by simp [frS, bI, c_26, c_36]) ?_
              exact j44 ls (lv_sub hl [0, 1, 2, 3] rfl)
        intro ls hl
        refine lv_istore (lv' := [(4, .int (bI (frS aN wt i))), (0, .ref op), (1, .int (nI wt)), (2, .int a), (3, .int (nI i))]) hx hb dX2_findRoom_44 hl (by decide) rfl (fun ls hl => ?_)
        refine lv_aload_n hx hb dX2_findRoom_46 rfl (lv_at hl 1 rfl) ?_
        refine va_get (D := D) (ci := 2) (v := .ref xA) (C := RX2) (T := TX2) (N := 17) hx hb hts hinX2 hown hK hP 0 rfl rfl 5 (by decide) hw28 (fun _ h9 => h9) rfl dX2_findRoom_47 ?_
        refine lv_iload_n hx hb dX2_findRoom_50 rfl (lv_at hl 4 rfl) ?_
        suffices j66 : ∀ ls : Array Slot, lv_has ls 6 [(4, .int (bI (frS aN wt i))), (0, .ref op), (1, .int (nI wt)), (2, .int a), (3, .int (nI i))] → wr_W p l e wsX2_findRoom ({ frames := 12, cells := 0, slots := 0, locals := 345 } : Room) s m [.ref op, .int (nI wt)] below meth c D (PlW op xO xW xN xC xA xM xG xT xH xR xF xB xX ob oc cI cZ (nI n) aO aW aN aC aA kS aM aG aT aH aR aF kF aB kT aX (nI n) f) (fun v w9 => (¬ aN wt = -1 ∧ v = some (.int (-1)) ∧ w9 = PlW op xO xW xN xC xA xM xG xT xH xR xF xB xX ob oc cI cZ (nI n) aO aW aN aC aA kS aM aG aT aH aR aF kF aB kT aX (nI n) f) ∨ (aN wt = -1 ∧ ∃ (aA9 aM9 aG9 : Nat → Int32), frI n aO aN wt aA9 aM9 aG9 ∧ ∃ (kS9 : Int32) (aT9 aH9 : Nat → Int32), topOk n aA9 aG9 kS9 aT9 aH9 ∧ v = some (.int (if (skM aC aA9 aM9 aG9 aT9 aH9 kS9 n 0 0 0 (-1, aF, aR)).1 = -1 then -1 else gF n (frNF aN) 0 0 - (skM aC aA9 aM9 aG9 aT9 aH9 kS9 n 0 0 0 (-1, aF, aR)).1)) ∧ w9 = PlW op xO xW xN xC xA xM xG xT xH xR xF xB xX ob oc cI cZ (nI n) aO aW aN aC aA9 kS9 aM9 aG9 aT9 aH9 ((skM aC aA9 aM9 aG9 aT9 aH9 kS9 n 0 0 0 (-1, aF, aR)).2.2) ((skM aC aA9 aM9 aG9 aT9 aH9 kS9 n 0 0 0 (-1, aF, aR)).2.1) ((skM aC aA9 aM9 aG9 aT9 aH9 kS9 n 0 0 0 (-1, aF, aR)).1) aB kT aX (nI n) f)) H locs (F0 m 66 ls [.int (if frS aN wt i then aO i else 0), .int (nI i), .ref xA]) by
          refine lv_iload hx hb dX2_findRoom_51 (lv_at hl 0 rfl) ?_
          refine rd_ifeq_b (tgt := 65) hx hb dX2_findRoom_53 (by decide) (fun c_53 => ?_) (fun c_53 => ?_)
          · refine lv_iconst (v := 0) hx hb dX2_findRoom_65 (by decide) ?_
            refine lv_asi (y := if frS aN wt i then aO i else 0) (by simp [c_53]) ?_
            exact j66 ls (lv_sub hl [0, 1, 2, 3, 4] rfl)
          · refine lv_aload_n hx hb dX2_findRoom_56 rfl (lv_at hl 1 rfl) ?_
            refine va_get (D := D) (ci := 2) (v := .ref xO) (C := RX2) (T := TX2) (N := 17) hx hb hts hinX2 hown hK hP 0 rfl rfl 1 (by decide) hw15 (fun _ h9 => h9) rfl dX2_findRoom_57 ?_
            refine lv_iload_n hx hb dX2_findRoom_60 rfl (lv_at hl 4 rfl) ?_
            refine rd_ald (q0 := 1) (t0 := 0) (j := i) (v := aO i) hx hb hK hP rfl rfl (rfl) (by omega) (by decide) (rfl) dX2_findRoom_61 ?_
            refine lv_goto (tgt := 66) hx hb dX2_findRoom_62 (by decide) ?_
            refine lv_asi (y := if frS aN wt i then aO i else 0) (by simp [c_53]) ?_
            exact j66 ls (lv_sub hl [0, 1, 2, 3, 4] rfl)
        intro ls hl
        refine wr_ast (q0 := 5) (t0 := 0) (j := i) hx hb hK hP hD hS rfl rfl (rfl) (by omega) (by decide) dX2_findRoom_66 (fun H locs hP hD hS => ?_)
        obtain ⟨aA_66, eaA_66⟩ : ∃ zz9 : Nat → Int32, zz9 = upd aA1 i (if frS aN wt i then aO i else 0) := ⟨_, rfl⟩
        rw [← eaA_66] at hP hD
        have hP : va_P D vwCl (PlW op xO xW xN xC xA xM xG xT xH xR xF xB xX ob oc cI cZ (nI n) aO aW aN aC aA_66 kS aM1 aG1 aT aH aR aF kF aB kT aX (nI n) f) H := hP
        have hD : va_D (wr_in (PlW op xO xW xN xC xA xM xG xT xH xR xF xB xX ob oc cI cZ (nI n) aO aW aN aC aA kS aM aG aT aH aR aF kF aB kT aX (nI n) f)) (PlW op xO xW xN xC xA xM xG xT xH xR xF xB xX ob oc cI cZ (nI n) aO aW aN aC aA_66 kS aM1 aG1 aT aH aR aF kF aB kT aX (nI n) f) := hD
        refine lv_aload_n hx hb dX2_findRoom_67 rfl (lv_at hl 1 rfl) ?_
        refine va_get (D := D) (ci := 2) (v := .ref xM) (C := RX2) (T := TX2) (N := 17) hx hb hts hinX2 hown hK hP 0 rfl rfl 7 (by decide) hw34 (fun _ h9 => h9) rfl dX2_findRoom_68 ?_
        refine lv_iload_n hx hb dX2_findRoom_71 rfl (lv_at hl 4 rfl) ?_
        suffices j82 : ∀ ls : Array Slot, lv_has ls 6 [(4, .int (bI (frS aN wt i))), (0, .ref op), (1, .int (nI wt)), (2, .int a), (3, .int (nI i))] → wr_W p l e wsX2_findRoom ({ frames := 12, cells := 0, slots := 0, locals := 345 } : Room) s m [.ref op, .int (nI wt)] below meth c D (PlW op xO xW xN xC xA xM xG xT xH xR xF xB xX ob oc cI cZ (nI n) aO aW aN aC aA kS aM aG aT aH aR aF kF aB kT aX (nI n) f) (fun v w9 => (¬ aN wt = -1 ∧ v = some (.int (-1)) ∧ w9 = PlW op xO xW xN xC xA xM xG xT xH xR xF xB xX ob oc cI cZ (nI n) aO aW aN aC aA kS aM aG aT aH aR aF kF aB kT aX (nI n) f) ∨ (aN wt = -1 ∧ ∃ (aA9 aM9 aG9 : Nat → Int32), frI n aO aN wt aA9 aM9 aG9 ∧ ∃ (kS9 : Int32) (aT9 aH9 : Nat → Int32), topOk n aA9 aG9 kS9 aT9 aH9 ∧ v = some (.int (if (skM aC aA9 aM9 aG9 aT9 aH9 kS9 n 0 0 0 (-1, aF, aR)).1 = -1 then -1 else gF n (frNF aN) 0 0 - (skM aC aA9 aM9 aG9 aT9 aH9 kS9 n 0 0 0 (-1, aF, aR)).1)) ∧ w9 = PlW op xO xW xN xC xA xM xG xT xH xR xF xB xX ob oc cI cZ (nI n) aO aW aN aC aA9 kS9 aM9 aG9 aT9 aH9 ((skM aC aA9 aM9 aG9 aT9 aH9 kS9 n 0 0 0 (-1, aF, aR)).2.2) ((skM aC aA9 aM9 aG9 aT9 aH9 kS9 n 0 0 0 (-1, aF, aR)).2.1) ((skM aC aA9 aM9 aG9 aT9 aH9 kS9 n 0 0 0 (-1, aF, aR)).1) aB kT aX (nI n) f)) H locs (F0 m 82 ls [.int (bI (!frS aN wt i)), .int (nI i), .ref xM]) by
          refine lv_iload hx hb dX2_findRoom_72 (lv_at hl 0 rfl) ?_
          refine rd_ifne_b (tgt := 81) hx hb dX2_findRoom_74 (by decide) (fun c_74 => ?_) (fun c_74 => ?_)
          · refine lv_iconst (v := 0) hx hb dX2_findRoom_81 (by decide) ?_
            refine lv_asi (y := bI (!frS aN wt i)) (by simp [bI, c_74]) ?_
            exact j82 ls (lv_sub hl [0, 1, 2, 3, 4] rfl)
          · refine lv_iconst (v := 1) hx hb dX2_findRoom_77 (by decide) ?_
            refine lv_goto (tgt := 82) hx hb dX2_findRoom_78 (by decide) ?_
            refine lv_asi (y := bI (!frS aN wt i)) (by simp [bI, c_74]) ?_
            exact j82 ls (lv_sub hl [0, 1, 2, 3, 4] rfl)
        intro ls hl
        refine wr_zst (x := !frS aN wt i) (q0 := 6) (t0 := 1) (j := i) hx hb hK hP hD hS rfl rfl (rfl) (by omega) (by decide) dX2_findRoom_82 (fun H locs hP hD hS => ?_)
        obtain ⟨aM_82, eaM_82⟩ : ∃ zz9 : Nat → Int32, zz9 = upd aM1 i (bI (!frS aN wt i)) := ⟨_, rfl⟩
        rw [← eaM_82] at hP hD
        have hP : va_P D vwCl (PlW op xO xW xN xC xA xM xG xT xH xR xF xB xX ob oc cI cZ (nI n) aO aW aN aC aA_66 kS aM_82 aG1 aT aH aR aF kF aB kT aX (nI n) f) H := hP
        have hD : va_D (wr_in (PlW op xO xW xN xC xA xM xG xT xH xR xF xB xX ob oc cI cZ (nI n) aO aW aN aC aA kS aM aG aT aH aR aF kF aB kT aX (nI n) f)) (PlW op xO xW xN xC xA xM xG xT xH xR xF xB xX ob oc cI cZ (nI n) aO aW aN aC aA_66 kS aM_82 aG1 aT aH aR aF kF aB kT aX (nI n) f) := hD
        refine lv_iconst (v := 0) hx hb dX2_findRoom_83 (by decide) ?_
        refine lv_istore (lv' := [(5, .int 0), (4, .int (bI (frS aN wt i))), (0, .ref op), (1, .int (nI wt)), (2, .int a), (3, .int (nI i))]) hx hb dX2_findRoom_84 hl (by decide) rfl (fun ls hl => ?_)
        suffices loop86 : ∀ (k86 k : Nat) (aG2 : Nat → Int32) (H : Heap) (locs : List Loc) (ls : Array Slot), k ≤ 4 → 4 + 1 ≤ k + k86 → (frG i k aN aG1 aG2) → va_P D vwCl (PlW op xO xW xN xC xA xM xG xT xH xR xF xB xX ob oc cI cZ (nI n) aO aW aN aC aA_66 kS aM_82 aG2 aT aH aR aF kF aB kT aX (nI n) f) H → va_D (wr_in (PlW op xO xW xN xC xA xM xG xT xH xR xF xB xX ob oc cI cZ (nI n) aO aW aN aC aA kS aM aG aT aH aR aF kF aB kT aX (nI n) f)) (PlW op xO xW xN xC xA xM xG xT xH xR xF xB xX ob oc cI cZ (nI n) aO aW aN aC aA_66 kS aM_82 aG2 aT aH aR aF kF aB kT aX (nI n) f) → va_S (wr_in (PlW op xO xW xN xC xA xM xG xT xH xR xF xB xX ob oc cI cZ (nI n) aO aW aN aC aA kS aM aG aT aH aR aF kF aB kT aX (nI n) f)) s.heap H locs → lv_has ls 6 [(0, .ref op), (1, .int (nI wt)), (2, .int a), (3, .int (nI i)), (4, .int (bI (frS aN wt i))), (5, .int (nI k))] → wr_W p l e wsX2_findRoom ({ frames := 12, cells := 0, slots := 0, locals := 345 } : Room) s m [.ref op, .int (nI wt)] below meth c D (PlW op xO xW xN xC xA xM xG xT xH xR xF xB xX ob oc cI cZ (nI n) aO aW aN aC aA kS aM aG aT aH aR aF kF aB kT aX (nI n) f) (fun v w9 => (¬ aN wt = -1 ∧ v = some (.int (-1)) ∧ w9 = PlW op xO xW xN xC xA xM xG xT xH xR xF xB xX ob oc cI cZ (nI n) aO aW aN aC aA kS aM aG aT aH aR aF kF aB kT aX (nI n) f) ∨ (aN wt = -1 ∧ ∃ (aA9 aM9 aG9 : Nat → Int32), frI n aO aN wt aA9 aM9 aG9 ∧ ∃ (kS9 : Int32) (aT9 aH9 : Nat → Int32), topOk n aA9 aG9 kS9 aT9 aH9 ∧ v = some (.int (if (skM aC aA9 aM9 aG9 aT9 aH9 kS9 n 0 0 0 (-1, aF, aR)).1 = -1 then -1 else gF n (frNF aN) 0 0 - (skM aC aA9 aM9 aG9 aT9 aH9 kS9 n 0 0 0 (-1, aF, aR)).1)) ∧ w9 = PlW op xO xW xN xC xA xM xG xT xH xR xF xB xX ob oc cI cZ (nI n) aO aW aN aC aA9 kS9 aM9 aG9 aT9 aH9 ((skM aC aA9 aM9 aG9 aT9 aH9 kS9 n 0 0 0 (-1, aF, aR)).2.2) ((skM aC aA9 aM9 aG9 aT9 aH9 kS9 n 0 0 0 (-1, aF, aR)).2.1) ((skM aC aA9 aM9 aG9 aT9 aH9 kS9 n 0 0 0 (-1, aF, aR)).1) aB kT aX (nI n) f)) H locs (F0 m 86 ls []) from
          loop86 (4 + 1) 0 aG1 H locs ls (by omega) (by omega) (by exact frG_init) hP hD hS (lv_sub hl [2, 3, 4, 5, 1, 0] rfl)
        intro k86
        induction k86 with
        | zero => intro k aG2 H locs ls h1 h2; exact absurd h2 (by omega)
        | succ k86 ih86 =>
          intro k aG2 H locs ls hle86 hlt86 inv86 hP hD hS hl
          refine lv_iload hx hb dX2_findRoom_86 (lv_at hl 5 rfl) ?_
          refine lv_iconst (v := 4) hx hb dX2_findRoom_88 (by decide) ?_
          refine rd_icmp_ge_n (a := k) (b := 4) (tgt := 125) (by omega) (by omega) hx hb dX2_findRoom_89 (by decide) (fun c_89 => ?_) (fun c_89 => ?_)
          · have c_89n := Nat.not_lt.mpr c_89
            refine lv_iload_n hx hb dX2_findRoom_125 rfl (lv_at hl 2 rfl) ?_
            refine lv_aload_n hx hb dX2_findRoom_126 rfl (lv_at hl 0 rfl) ?_
            refine va_get (D := D) (ci := 2) (v := .ref xN) (C := RX2) (T := TX2) (N := 17) hx hb hts hinX2 hown hK hP 0 rfl rfl 3 (by decide) hw22 (fun _ h9 => h9) rfl dX2_findRoom_127 ?_
            refine lv_iload_n hx hb dX2_findRoom_130 rfl (lv_at hl 3 rfl) ?_
            refine rd_ald (q0 := 3) (t0 := 0) (j := i) (v := aN i) hx hb hK hP rfl rfl (rfl) (by omega) (by decide) (rfl) dX2_findRoom_131 ?_
            refine lv_iconst (v := (-1)) hx hb dX2_findRoom_132 (by decide) ?_
            refine lv_icmp_ne (tgt := 140) hx hb dX2_findRoom_133 (by decide) (fun c_133 => ?_) (fun c_133 => ?_)
            · refine lv_iconst (v := 1) hx hb dX2_findRoom_140 (by decide) ?_
              refine lv_iadd hx hb dX2_findRoom_141 ?_
              refine lv_istore_n (lv' := [(2, .int (a + 1)), (0, .ref op), (1, .int (nI wt)), (3, .int (nI i)), (4, .int (bI (frS aN wt i))), (5, .int (nI k))]) hx hb dX2_findRoom_142 rfl hl (by decide) rfl (fun ls hl => ?_)
              refine lv_iinc (v := nI (i + 1)) (lv' := [(3, .int (nI (i + 1))), (2, .int (a + 1)), (0, .ref op), (1, .int (nI wt)), (4, .int (bI (frS aN wt i))), (5, .int (nI k))]) hx hb dX2_findRoom_143 hl (k := 3) rfl (nI_add i 1) (by decide) rfl (fun ls hl => ?_)
              refine lv_goto (tgt := 16) hx hb dX2_findRoom_146 (by decide) ?_
              exact ih16 (i + 1) (a + 1) aA_66 aM_82 aG2 H locs ls (by omega) (by omega) (by exact ⟨frI_step inv16.1 eaA_66 eaM_82 c_89 inv86, by rw [inv16.2, gF_step c_21]; simp [frNF, c_133]⟩) hP hD hS (lv_sub hl [2, 3, 1, 0] rfl)
            · refine lv_iconst (v := 0) hx hb dX2_findRoom_136 (by decide) ?_
              refine lv_goto (tgt := 141) hx hb dX2_findRoom_137 (by decide) ?_
              refine lv_iadd hx hb dX2_findRoom_141 ?_
              refine lv_istore_n (lv' := [(2, .int (a + 0)), (0, .ref op), (1, .int (nI wt)), (3, .int (nI i)), (4, .int (bI (frS aN wt i))), (5, .int (nI k))]) hx hb dX2_findRoom_142 rfl hl (by decide) rfl (fun ls hl => ?_)
              refine lv_iinc (v := nI (i + 1)) (lv' := [(3, .int (nI (i + 1))), (2, .int (a + 0)), (0, .ref op), (1, .int (nI wt)), (4, .int (bI (frS aN wt i))), (5, .int (nI k))]) hx hb dX2_findRoom_143 hl (k := 3) rfl (nI_add i 1) (by decide) rfl (fun ls hl => ?_)
              refine lv_goto (tgt := 16) hx hb dX2_findRoom_146 (by decide) ?_
              exact ih16 (i + 1) (a + 0) aA_66 aM_82 aG2 H locs ls (by omega) (by omega) (by exact ⟨frI_step inv16.1 eaA_66 eaM_82 c_89 inv86, by rw [inv16.2, gF_step c_21]; simp [frNF, c_133]⟩) hP hD hS (lv_sub hl [2, 3, 1, 0] rfl)
          · have c_89n := Nat.not_le.mpr c_89
            refine lv_aload_n hx hb dX2_findRoom_92 rfl (lv_at hl 0 rfl) ?_
            refine va_get (D := D) (ci := 2) (v := .ref xG) (C := RX2) (T := TX2) (N := 17) hx hb hts hinX2 hown hK hP 0 rfl rfl 8 (by decide) hw38 (fun _ h9 => h9) rfl dX2_findRoom_93 ?_
            refine lv_iload_n hx hb dX2_findRoom_96 rfl (lv_at hl 3 rfl) ?_
            refine lv_iconst (v := 4) hx hb dX2_findRoom_97 (by decide) ?_
            refine lv_imul hx hb dX2_findRoom_98 ?_
            refine lv_asi (y := nI (i * 4)) (pk_mul i 4) ?_
            refine lv_iload hx hb dX2_findRoom_99 (lv_at hl 5 rfl) ?_
            refine lv_iadd hx hb dX2_findRoom_101 ?_
            refine lv_asi (y := nI ((i * 4) + k)) (nI_add (i * 4) k) ?_
            suffices j118 : ∀ ls : Array Slot, lv_has ls 6 [(0, .ref op), (1, .int (nI wt)), (2, .int a), (3, .int (nI i)), (4, .int (bI (frS aN wt i))), (5, .int (nI k))] → wr_W p l e wsX2_findRoom ({ frames := 12, cells := 0, slots := 0, locals := 345 } : Room) s m [.ref op, .int (nI wt)] below meth c D (PlW op xO xW xN xC xA xM xG xT xH xR xF xB xX ob oc cI cZ (nI n) aO aW aN aC aA kS aM aG aT aH aR aF kF aB kT aX (nI n) f) (fun v w9 => (¬ aN wt = -1 ∧ v = some (.int (-1)) ∧ w9 = PlW op xO xW xN xC xA xM xG xT xH xR xF xB xX ob oc cI cZ (nI n) aO aW aN aC aA kS aM aG aT aH aR aF kF aB kT aX (nI n) f) ∨ (aN wt = -1 ∧ ∃ (aA9 aM9 aG9 : Nat → Int32), frI n aO aN wt aA9 aM9 aG9 ∧ ∃ (kS9 : Int32) (aT9 aH9 : Nat → Int32), topOk n aA9 aG9 kS9 aT9 aH9 ∧ v = some (.int (if (skM aC aA9 aM9 aG9 aT9 aH9 kS9 n 0 0 0 (-1, aF, aR)).1 = -1 then -1 else gF n (frNF aN) 0 0 - (skM aC aA9 aM9 aG9 aT9 aH9 kS9 n 0 0 0 (-1, aF, aR)).1)) ∧ w9 = PlW op xO xW xN xC xA xM xG xT xH xR xF xB xX ob oc cI cZ (nI n) aO aW aN aC aA9 kS9 aM9 aG9 aT9 aH9 ((skM aC aA9 aM9 aG9 aT9 aH9 kS9 n 0 0 0 (-1, aF, aR)).2.2) ((skM aC aA9 aM9 aG9 aT9 aH9 kS9 n 0 0 0 (-1, aF, aR)).2.1) ((skM aC aA9 aM9 aG9 aT9 aH9 kS9 n 0 0 0 (-1, aF, aR)).1) aB kT aX (nI n) f)) H locs (F0 m 118 ls [.int (if aN i = nI k then 1 else 0), .int (nI ((i * 4) + k)), .ref xG]) by
              refine lv_aload_n hx hb dX2_findRoom_102 rfl (lv_at hl 0 rfl) ?_
              refine va_get (D := D) (ci := 2) (v := .ref xN) (C := RX2) (T := TX2) (N := 17) hx hb hts hinX2 hown hK hP 0 rfl rfl 3 (by decide) hw22 (fun _ h9 => h9) rfl dX2_findRoom_103 ?_
              refine lv_iload_n hx hb dX2_findRoom_106 rfl (lv_at hl 3 rfl) ?_
              refine rd_ald (q0 := 3) (t0 := 0) (j := i) (v := aN i) hx hb hK hP rfl rfl (rfl) (by omega) (by decide) (rfl) dX2_findRoom_107 ?_
              refine lv_iload hx hb dX2_findRoom_108 (lv_at hl 5 rfl) ?_
              refine lv_icmp_ne (tgt := 117) hx hb dX2_findRoom_110 (by decide) (fun c_110 => ?_) (fun c_110 => ?_)
              · refine lv_iconst (v := 0) hx hb dX2_findRoom_117 (by decide) ?_
                refine lv_asi (y := if aN i = nI k then 1 else 0) (by simp [c_110]) ?_
                exact j118 ls (lv_sub hl [0, 1, 2, 3, 4, 5] rfl)
              · refine lv_iconst (v := 1) hx hb dX2_findRoom_113 (by decide) ?_
                refine lv_goto (tgt := 118) hx hb dX2_findRoom_114 (by decide) ?_
                refine lv_asi (y := if aN i = nI k then 1 else 0) (by simp [c_110]) ?_
                exact j118 ls (lv_sub hl [0, 1, 2, 3, 4, 5] rfl)
            intro ls hl
            refine wr_ast (q0 := 7) (t0 := 0) (j := (i * 4) + k) hx hb hK hP hD hS rfl rfl (rfl) (by omega) (by decide) dX2_findRoom_118 (fun H locs hP hD hS => ?_)
            obtain ⟨aG_118, eaG_118⟩ : ∃ zz9 : Nat → Int32, zz9 = upd aG2 ((i * 4) + k) (if aN i = nI k then 1 else 0) := ⟨_, rfl⟩
            rw [← eaG_118] at hP hD
            have hP : va_P D vwCl (PlW op xO xW xN xC xA xM xG xT xH xR xF xB xX ob oc cI cZ (nI n) aO aW aN aC aA_66 kS aM_82 aG_118 aT aH aR aF kF aB kT aX (nI n) f) H := hP
            have hD : va_D (wr_in (PlW op xO xW xN xC xA xM xG xT xH xR xF xB xX ob oc cI cZ (nI n) aO aW aN aC aA kS aM aG aT aH aR aF kF aB kT aX (nI n) f)) (PlW op xO xW xN xC xA xM xG xT xH xR xF xB xX ob oc cI cZ (nI n) aO aW aN aC aA_66 kS aM_82 aG_118 aT aH aR aF kF aB kT aX (nI n) f) := hD
            refine lv_iinc (v := nI (k + 1)) (lv' := [(5, .int (nI (k + 1))), (0, .ref op), (1, .int (nI wt)), (2, .int a), (3, .int (nI i)), (4, .int (bI (frS aN wt i)))]) hx hb dX2_findRoom_119 hl (k := 5) rfl (nI_add k 1) (by decide) rfl (fun ls hl => ?_)
            refine lv_goto (tgt := 86) hx hb dX2_findRoom_122 (by decide) ?_
            exact ih86 (k + 1) aG_118 H locs ls (by omega) (by omega) (by exact frG_step c_89 inv86 eaG_118 rfl) hP hD hS (lv_sub hl [1, 2, 3, 4, 5, 0] rfl)
  · refine lv_iconst (v := (-1)) hx hb dX2_findRoom_10 (by decide) ?_
    exact wr_iret hx hb hr hlocks hP hS rfl dX2_findRoom_11 (by exact Or.inl ⟨c_7, rfl, rfl⟩)
