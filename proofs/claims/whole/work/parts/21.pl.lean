abbrev PlW (op xO xW xN xC xA xM xG xT xH xR xF xB xX ob oc : Nat) (cI cZ : ClassId) (kn : Int32) (aO : Nat → Int32) (aW : Nat → Int32) (aN : Nat → Int32) (aC : Nat → Int32) (aA : Nat → Int32) (kS : Int32) (aM : Nat → Int32) (aG : Nat → Int32) (aT : Nat → Int32) (aH : Nat → Int32) (aR : Nat → Int32) (aF : Nat → Int32) (kF : Int32) (aB : Nat → Int32) (kT : Int32) (aX : Nat → Int32) (n : Int32) (f : Nat → Int32) : va_W := [(op, .inr (2, [.int kn, .ref xO, .ref xW, .ref xN, .ref xC, .ref xA, .int kS, .ref xM, .ref xG, .ref xT, .ref xH, .ref xR, .ref xF, .int kF, .ref xB, .int kT, .ref xX])), (xO, .inl (cI, 8, .inl aO)), (xW, .inl (cI, 8, .inl aW)), (xN, .inl (cI, 8, .inl aN)), (xC, .inl (cI, 32, .inl aC)), (xA, .inl (cI, 8, .inl aA)), (xM, .inl (cZ, 8, .inl aM)), (xG, .inl (cI, 32, .inl aG)), (xT, .inl (cI, 8, .inl aT)), (xH, .inl (cI, 9, .inl aH)), (xR, .inl (cI, 8, .inl aR)), (xF, .inl (cI, 8, .inl aF)), (xB, .inl (cI, 8, .inl aB)), (xX, .inl (cI, 8, .inl aX)), (ob, .inr (0, [.ref oc, .int n])), (oc, .inl (cI, 48, .inl f))]
set_option maxHeartbeats 4000000 in
set_option maxRecDepth 100000 in
theorem c_X2_findMostGain (l : Launch) (D : va_G) {op xO xW xN xC xA xM xG xT xH xR xF xB xX ob oc : Nat} {cI : ClassId} {cZ : ClassId} {n : Nat} {P : Nat → Nat → Int32} {kS kF kT : Int32} {aO aW aN aC aA aM aG aT aH aR aF aB aX f : Nat → Int32} (hn8 : n ≤ 8) {i : Nat} (hi : i < n) : wr_M l yX2_findMostGain wsX2_findMostGain ({ frames := 1, cells := 0, slots := 0, locals := 21 } : Room) D (PlW op xO xW xN xC xA xM xG xT xH xR xF xB xX ob oc cI cZ (nI n) aO aW aN aC aA kS aM aG aT aH aR aF kF aB kT aX (nI n) f) [(cI, .int), (cZ, .boolean)] [.ref op, .int (nI i)] (fun v w9 => v = some (.int (gMG aA aG i)) ∧ w9 = PlW op xO xW xN xC xA xM xG xT xH xR xF xB xX ob oc cI cZ (nI n) aO aW aN aC aA kS aM aG aT aH aR aF kF aB kT aX (nI n) f) := by
  refine wr_of (cc := cX2_findMostGain) (maxL := 4) (ret := some .int) (by decide) rfl (Nat.le_of_ble_eq_true rfl) ?_
  intro p e s m below meth c hx hb hr hml hts hown hlocks hP hK hN hZ hD hS ls hl
  have hown : s.vm.findClass RX2 = some m.cls := hown
  have hl : lv_has ls 4 [(0, .ref op), (1, .int (nI i))] := hl
  have hinX2 : ∀ w ∈ u_ws RX2 TX2 17, w ∈ wsX2_findMostGain := by decide +kernel
  have hw28 := hts (.fieldLink RX2 28 "CornerLabels$Plans" "allowed" "[I") (by decide +kernel)
  have hw38 := hts (.fieldLink RX2 38 "CornerLabels$Plans" "gain" "[I") (by decide +kernel)
  suffices body : ∀ (H : Heap) (locs : List Loc), va_P D vwCl (PlW op xO xW xN xC xA xM xG xT xH xR xF xB xX ob oc cI cZ (nI n) aO aW aN aC aA kS aM aG aT aH aR aF kF aB kT aX (nI n) f) H → va_D (wr_in (PlW op xO xW xN xC xA xM xG xT xH xR xF xB xX ob oc cI cZ (nI n) aO aW aN aC aA kS aM aG aT aH aR aF kF aB kT aX (nI n) f)) (PlW op xO xW xN xC xA xM xG xT xH xR xF xB xX ob oc cI cZ (nI n) aO aW aN aC aA kS aM aG aT aH aR aF kF aB kT aX (nI n) f) → va_S (wr_in (PlW op xO xW xN xC xA xM xG xT xH xR xF xB xX ob oc cI cZ (nI n) aO aW aN aC aA kS aM aG aT aH aR aF kF aB kT aX (nI n) f)) s.heap H locs → wr_W p l e wsX2_findMostGain ({ frames := 1, cells := 0, slots := 0, locals := 21 } : Room) s m [.ref op, .int (nI i)] below meth c D (PlW op xO xW xN xC xA xM xG xT xH xR xF xB xX ob oc cI cZ (nI n) aO aW aN aC aA kS aM aG aT aH aR aF kF aB kT aX (nI n) f) (fun v w9 => v = some (.int (gMG aA aG i)) ∧ w9 = PlW op xO xW xN xC xA xM xG xT xH xR xF xB xX ob oc cI cZ (nI n) aO aW aN aC aA kS aM aG aT aH aR aF kF aB kT aX (nI n) f) H locs (F0 m 0 ls []) from body _ _ hP hD hS
  clear hP hD hS
  intro H locs hP hD hS
  refine lv_iconst (v := 0) hx hb dX2_findMostGain_0 (by decide) ?_
  refine lv_istore_n (lv' := [(2, .int 0), (0, .ref op), (1, .int (nI i))]) hx hb dX2_findMostGain_1 rfl hl (by decide) rfl (fun ls hl => ?_)
  refine lv_iconst (v := 0) hx hb dX2_findMostGain_2 (by decide) ?_
  refine lv_istore_n (lv' := [(3, .int 0), (2, .int 0), (0, .ref op), (1, .int (nI i))]) hx hb dX2_findMostGain_3 rfl hl (by decide) rfl (fun ls hl => ?_)
  suffices loop4 : ∀ (k4 k : Nat) (a : Int32) (H : Heap) (locs : List Loc) (ls : Array Slot), k ≤ 4 → 4 + 1 ≤ k + k4 → (gMG aA aG i = gF 4 (gMGF aA aG i) k a) → va_P D vwCl (PlW op xO xW xN xC xA xM xG xT xH xR xF xB xX ob oc cI cZ (nI n) aO aW aN aC aA kS aM aG aT aH aR aF kF aB kT aX (nI n) f) H → va_D (wr_in (PlW op xO xW xN xC xA xM xG xT xH xR xF xB xX ob oc cI cZ (nI n) aO aW aN aC aA kS aM aG aT aH aR aF kF aB kT aX (nI n) f)) (PlW op xO xW xN xC xA xM xG xT xH xR xF xB xX ob oc cI cZ (nI n) aO aW aN aC aA kS aM aG aT aH aR aF kF aB kT aX (nI n) f) → va_S (wr_in (PlW op xO xW xN xC xA xM xG xT xH xR xF xB xX ob oc cI cZ (nI n) aO aW aN aC aA kS aM aG aT aH aR aF kF aB kT aX (nI n) f)) s.heap H locs → lv_has ls 4 [(0, .ref op), (1, .int (nI i)), (2, .int a), (3, .int (nI k))] → wr_W p l e wsX2_findMostGain ({ frames := 1, cells := 0, slots := 0, locals := 21 } : Room) s m [.ref op, .int (nI i)] below meth c D (PlW op xO xW xN xC xA xM xG xT xH xR xF xB xX ob oc cI cZ (nI n) aO aW aN aC aA kS aM aG aT aH aR aF kF aB kT aX (nI n) f) (fun v w9 => v = some (.int (gMG aA aG i)) ∧ w9 = PlW op xO xW xN xC xA xM xG xT xH xR xF xB xX ob oc cI cZ (nI n) aO aW aN aC aA kS aM aG aT aH aR aF kF aB kT aX (nI n) f) H locs (F0 m 4 ls []) from
    loop4 (4 + 1) 0 0 H locs ls (by omega) (by omega) (by rfl) hP hD hS (lv_sub hl [2, 3, 1, 0] rfl)
  intro k4
  induction k4 with
  | zero => intro k a H locs ls h1 h2; exact absurd h2 (by omega)
  | succ k4 ih4 =>
    intro k a H locs ls hle4 hlt4 inv4 hP hD hS hl
    refine lv_iload_n hx hb dX2_findMostGain_4 rfl (lv_at hl 3 rfl) ?_
    refine lv_iconst (v := 4) hx hb dX2_findMostGain_5 (by decide) ?_
    refine rd_icmp_ge_n (a := k) (b := 4) (tgt := 43) (by omega) (by omega) hx hb dX2_findMostGain_6 (by decide) (fun c_6 => ?_) (fun c_6 => ?_)
    · have c_6n := Nat.not_lt.mpr c_6
      refine lv_iload_n hx hb dX2_findMostGain_43 rfl (lv_at hl 2 rfl) ?_
      exact wr_iret hx hb hr hlocks hP hS rfl dX2_findMostGain_44 (by exact ⟨by rw [inv4, gF_end c_6], rfl⟩)
    · have c_6n := Nat.not_le.mpr c_6
      refine lv_aload_n hx hb dX2_findMostGain_9 rfl (lv_at hl 0 rfl) ?_
      refine va_get (D := D) (ci := 2) (v := .ref xA) (C := RX2) (T := TX2) (N := 17) hx hb hts hinX2 hown hK hP 0 rfl rfl 5 (by decide) hw28 (fun _ h9 => h9) rfl dX2_findMostGain_10 ?_
      refine lv_iload_n hx hb dX2_findMostGain_13 rfl (lv_at hl 1 rfl) ?_
      refine rd_ald (q0 := 5) (t0 := 0) (j := i) (v := aA i) hx hb hK hP rfl rfl (rfl) (by omega) (by decide) (rfl) dX2_findMostGain_14 ?_
      refine lv_iload_n hx hb dX2_findMostGain_15 rfl (lv_at hl 3 rfl) ?_
      refine rd_callSN (As := [.int (aA i), .int (nI k)]) (rest := []) ⟨hx, hb, hml, hown, hts⟩ (c_X4_hasBit l D (aA i) (nI k)) ⟨va_cnB 2 hts gX2_findMostGain_X4_hasBit_n79 rfl rfl rfl hN.2 (hts (.initialized RX4) (by decide +kernel)) (by decide +kernel) ⟨by decide, by decide⟩, hts (.static yX4_hasBit) (by decide +kernel), trivial⟩ hK hN hP rfl hl.1 rfl (Nat.le_of_ble_eq_true rfl) ⟨by decide, by decide⟩ dX2_findMostGain_16 ?_
      refine rd_ifeq_b (tgt := 37) hx hb dX2_findMostGain_19 (by decide) (fun c_19 => ?_) (fun c_19 => ?_)
      · refine lv_iinc (v := nI (k + 1)) (lv' := [(3, .int (nI (k + 1))), (0, .ref op), (1, .int (nI i)), (2, .int a)]) hx hb dX2_findMostGain_37 hl (k := 3) rfl (nI_add k 1) (by decide) rfl (fun ls hl => ?_)
        refine lv_goto (tgt := 4) hx hb dX2_findMostGain_40 (by decide) ?_
        exact ih4 (k + 1) a H locs ls (by omega) (by omega) (by rw [inv4, gF_step c_6]; simp [gMGF, c_6n, c_19]) hP hD hS (lv_sub hl [1, 2, 3, 0] rfl)
      · refine lv_iload_n hx hb dX2_findMostGain_22 rfl (lv_at hl 2 rfl) ?_
        refine lv_aload_n hx hb dX2_findMostGain_23 rfl (lv_at hl 0 rfl) ?_
        refine va_get (D := D) (ci := 2) (v := .ref xG) (C := RX2) (T := TX2) (N := 17) hx hb hts hinX2 hown hK hP 0 rfl rfl 8 (by decide) hw38 (fun _ h9 => h9) rfl dX2_findMostGain_24 ?_
        refine lv_iload_n hx hb dX2_findMostGain_27 rfl (lv_at hl 1 rfl) ?_
        refine lv_iconst (v := 4) hx hb dX2_findMostGain_28 (by decide) ?_
        refine lv_imul hx hb dX2_findMostGain_29 ?_
        refine lv_asi (y := nI (i * 4)) (pk_mul i 4) ?_
        refine lv_iload_n hx hb dX2_findMostGain_30 rfl (lv_at hl 3 rfl) ?_
        refine lv_iadd hx hb dX2_findMostGain_31 ?_
        refine lv_asi (y := nI ((i * 4) + k)) (nI_add (i * 4) k) ?_
        refine rd_ald (q0 := 7) (t0 := 0) (j := (i * 4) + k) (v := aG ((i * 4) + k)) hx hb hK hP rfl rfl (rfl) (by omega) (by decide) (rfl) dX2_findMostGain_32 ?_
        refine va_mmax hx hb (hml.trans hl.1.symm) hown (hts (.methodLink RX2 107 Lib.Math.max.name) (by decide +kernel)) (hts (.static Lib.Math.max.name) (by decide +kernel)) (hts (.initialized "java/lang/Math") (by decide +kernel)) (hts (.code Lib.Math.max.name Lib.Math.max.code 2 (some .int)) (by decide +kernel)) (by decide) (by decide) (by decide) (by decide) dX2_findMostGain_33 ?_
        refine lv_asi (y := iMax a (aG ((i * 4) + k))) rfl ?_
        refine lv_istore_n (lv' := [(2, .int (iMax a (aG ((i * 4) + k)))), (0, .ref op), (1, .int (nI i)), (3, .int (nI k))]) hx hb dX2_findMostGain_36 rfl hl (by decide) rfl (fun ls hl => ?_)
        refine lv_iinc (v := nI (k + 1)) (lv' := [(3, .int (nI (k + 1))), (2, .int (iMax a (aG ((i * 4) + k)))), (0, .ref op), (1, .int (nI i))]) hx hb dX2_findMostGain_37 hl (k := 3) rfl (nI_add k 1) (by decide) rfl (fun ls hl => ?_)
        refine lv_goto (tgt := 4) hx hb dX2_findMostGain_40 (by decide) ?_
        exact ih4 (k + 1) (iMax a (aG ((i * 4) + k))) H locs ls (by omega) (by omega) (by rw [inv4, gF_step c_6]; simp [gMGF, c_6n, c_19]) hP hD hS (lv_sub hl [2, 3, 1, 0] rfl)
set_option maxHeartbeats 4000000 in
set_option maxRecDepth 100000 in
theorem c_X2_laterClashes (l : Launch) (D : va_G) {op xO xW xN xC xA xM xG xT xH xR xF xB xX ob oc : Nat} {cI : ClassId} {cZ : ClassId} {n : Nat} {P : Nat → Nat → Int32} {kS kF kT : Int32} {aO aW aN aC aA aM aG aT aH aR aF aB aX f : Nat → Int32} (hn8 : n ≤ 8) (hf : ∀ i, i < n → ∀ k, k < 6 → f (8 * k + i) = P i k) {i : Nat} (hi : i < n) {q : Nat} (hq : q < 4) : wr_M l yX2_laterClashes wsX2_laterClashes ({ frames := 3, cells := 0, slots := 0, locals := 72 } : Room) D (PlW op xO xW xN xC xA xM xG xT xH xR xF xB xX ob oc cI cZ (nI n) aO aW aN aC aA kS aM aG aT aH aR aF kF aB kT aX (nI n) f) [(cI, .int), (cZ, .boolean)] [.ref op, .ref ob, .int (nI i), .int (nI q)] (fun v w9 => v = some (.int (gLc n aO P i (nI q))) ∧ w9 = PlW op xO xW xN xC xA xM xG xT xH xR xF xB xX ob oc cI cZ (nI n) aO aW aN aC aA kS aM aG aT aH aR aF kF aB kT aX (nI n) f) := by
  refine wr_of (cc := cX2_laterClashes) (maxL := 7) (ret := some .int) (by decide) rfl (Nat.le_of_ble_eq_true rfl) ?_
  intro p e s m below meth c hx hb hr hml hts hown hlocks hP hK hN hZ hD hS ls hl
  have hown : s.vm.findClass RX2 = some m.cls := hown
  have hl : lv_has ls 7 [(0, .ref op), (1, .ref ob), (2, .int (nI i)), (3, .int (nI q))] := hl
  have hinX2 : ∀ w ∈ u_ws RX2 TX2 17, w ∈ wsX2_laterClashes := by decide +kernel
  have hw15 := hts (.fieldLink RX2 15 "CornerLabels$Plans" "open" "[I") (by decide +kernel)
  have hw9 := hts (.fieldLink RX2 9 "CornerLabels$Plans" "points" "I") (by decide +kernel)
  suffices body : ∀ (H : Heap) (locs : List Loc), va_P D vwCl (PlW op xO xW xN xC xA xM xG xT xH xR xF xB xX ob oc cI cZ (nI n) aO aW aN aC aA kS aM aG aT aH aR aF kF aB kT aX (nI n) f) H → va_D (wr_in (PlW op xO xW xN xC xA xM xG xT xH xR xF xB xX ob oc cI cZ (nI n) aO aW aN aC aA kS aM aG aT aH aR aF kF aB kT aX (nI n) f)) (PlW op xO xW xN xC xA xM xG xT xH xR xF xB xX ob oc cI cZ (nI n) aO aW aN aC aA kS aM aG aT aH aR aF kF aB kT aX (nI n) f) → va_S (wr_in (PlW op xO xW xN xC xA xM xG xT xH xR xF xB xX ob oc cI cZ (nI n) aO aW aN aC aA kS aM aG aT aH aR aF kF aB kT aX (nI n) f)) s.heap H locs → wr_W p l e wsX2_laterClashes ({ frames := 3, cells := 0, slots := 0, locals := 72 } : Room) s m [.ref op, .ref ob, .int (nI i), .int (nI q)] below meth c D (PlW op xO xW xN xC xA xM xG xT xH xR xF xB xX ob oc cI cZ (nI n) aO aW aN aC aA kS aM aG aT aH aR aF kF aB kT aX (nI n) f) (fun v w9 => v = some (.int (gLc n aO P i (nI q))) ∧ w9 = PlW op xO xW xN xC xA xM xG xT xH xR xF xB xX ob oc cI cZ (nI n) aO aW aN aC aA kS aM aG aT aH aR aF kF aB kT aX (nI n) f) H locs (F0 m 0 ls []) from body _ _ hP hD hS
  clear hP hD hS
  intro H locs hP hD hS
  have hbd : bd_in (PlW op xO xW xN xC xA xM xG xT xH xR xF xB xX ob oc cI cZ (nI n) aO aW aN aC aA kS aM aG aT aH aR aF kF aB kT aX (nI n) f) [(cI, .int), (cZ, .boolean)] ob n P := ⟨14, 15, 0, oc, cI, f, rfl, rfl, rfl, hn8, hf⟩
  refine lv_iconst (v := 0) hx hb dX2_laterClashes_0 (by decide) ?_
  refine lv_istore (lv' := [(4, .int 0), (0, .ref op), (1, .ref ob), (2, .int (nI i)), (3, .int (nI q))]) hx hb dX2_laterClashes_1 hl (by decide) rfl (fun ls hl => ?_)
  refine lv_aload_n hx hb dX2_laterClashes_3 rfl (lv_at hl 1 rfl) ?_
  refine va_get (D := D) (ci := 2) (v := .ref xO) (C := RX2) (T := TX2) (N := 17) hx hb hts hinX2 hown hK hP 0 rfl rfl 1 (by decide) hw15 (fun _ h9 => h9) rfl dX2_laterClashes_4 ?_
  refine lv_iload_n hx hb dX2_laterClashes_7 rfl (lv_at hl 3 rfl) ?_
  refine rd_ald (q0 := 1) (t0 := 0) (j := i) (v := aO i) hx hb hK hP rfl rfl (rfl) (by omega) (by decide) (rfl) dX2_laterClashes_8 ?_
  refine lv_iload_n hx hb dX2_laterClashes_9 rfl (lv_at hl 4 rfl) ?_
  refine rd_callSN (As := [.int (aO i), .int (nI q)]) (rest := []) ⟨hx, hb, hml, hown, hts⟩ (c_X4_hasBit l D (aO i) (nI q)) ⟨va_cnB 2 hts gX2_laterClashes_X4_hasBit_n79 rfl rfl rfl hN.2 (hts (.initialized RX4) (by decide +kernel)) (by decide +kernel) ⟨by decide, by decide⟩, hts (.static yX4_hasBit) (by decide +kernel), trivial⟩ hK hN hP rfl hl.1 rfl (Nat.le_of_ble_eq_true rfl) ⟨by decide, by decide⟩ dX2_laterClashes_10 ?_
  refine rd_ifne_b (tgt := 19) hx hb dX2_laterClashes_13 (by decide) (fun c_13 => ?_) (fun c_13 => ?_)
  · refine lv_iload_n hx hb dX2_laterClashes_19 rfl (lv_at hl 3 rfl) ?_
    refine lv_iconst (v := 1) hx hb dX2_laterClashes_20 (by decide) ?_
    refine lv_iadd hx hb dX2_laterClashes_21 ?_
    refine lv_asi (y := nI (i + 1)) (nI_add i 1) ?_
    refine lv_istore (lv' := [(5, .int (nI (i + 1))), (4, .int 0), (0, .ref op), (1, .ref ob), (2, .int (nI i)), (3, .int (nI q))]) hx hb dX2_laterClashes_22 hl (by decide) rfl (fun ls hl => ?_)
    suffices loop24 : ∀ (k24 j : Nat) (a : Int32) (H : Heap) (locs : List Loc) (ls : Array Slot), j ≤ n → n + 1 ≤ j + k24 → (gLc n aO P i (nI q) = gF n (gLcO aO P i (nI q)) j a) → va_P D vwCl (PlW op xO xW xN xC xA xM xG xT xH xR xF xB xX ob oc cI cZ (nI n) aO aW aN aC aA kS aM aG aT aH aR aF kF aB kT aX (nI n) f) H → va_D (wr_in (PlW op xO xW xN xC xA xM xG xT xH xR xF xB xX ob oc cI cZ (nI n) aO aW aN aC aA kS aM aG aT aH aR aF kF aB kT aX (nI n) f)) (PlW op xO xW xN xC xA xM xG xT xH xR xF xB xX ob oc cI cZ (nI n) aO aW aN aC aA kS aM aG aT aH aR aF kF aB kT aX (nI n) f) → va_S (wr_in (PlW op xO xW xN xC xA xM xG xT xH xR xF xB xX ob oc cI cZ (nI n) aO aW aN aC aA kS aM aG aT aH aR aF kF aB kT aX (nI n) f)) s.heap H locs → lv_has ls 7 [(0, .ref op), (1, .ref ob), (2, .int (nI i)), (3, .int (nI q)), (4, .int a), (5, .int (nI j))] → wr_W p l e wsX2_laterClashes ({ frames := 3, cells := 0, slots := 0, locals := 72 } : Room) s m [.ref op, .ref ob, .int (nI i), .int (nI q)] below meth c D (PlW op xO xW xN xC xA xM xG xT xH xR xF xB xX ob oc cI cZ (nI n) aO aW aN aC aA kS aM aG aT aH aR aF kF aB kT aX (nI n) f) (fun v w9 => v = some (.int (gLc n aO P i (nI q))) ∧ w9 = PlW op xO xW xN xC xA xM xG xT xH xR xF xB xX ob oc cI cZ (nI n) aO aW aN aC aA kS aM aG aT aH aR aF kF aB kT aX (nI n) f) H locs (F0 m 24 ls []) from
      loop24 (n + 1) (i + 1) 0 H locs ls (by omega) (by omega) (by simp [gLc, c_13]) hP hD hS (lv_sub hl [2, 3, 4, 5, 1, 0] rfl)
    intro k24
    induction k24 with
    | zero => intro j a H locs ls h1 h2; exact absurd h2 (by omega)
    | succ k24 ih24 =>
      intro j a H locs ls hle24 hlt24 inv24 hP hD hS hl
      refine lv_iload hx hb dX2_laterClashes_24 (lv_at hl 5 rfl) ?_
      refine lv_aload_n hx hb dX2_laterClashes_26 rfl (lv_at hl 0 rfl) ?_
      refine va_get (D := D) (ci := 2) (v := .int (nI n)) (C := RX2) (T := TX2) (N := 17) hx hb hts hinX2 hown hK hP 0 rfl rfl 0 (by decide) hw9 (fun _ h9 => h9) rfl dX2_laterClashes_27 ?_
      refine rd_icmp_ge_n (a := j) (b := n) (tgt := 96) (by omega) (by omega) hx hb dX2_laterClashes_30 (by decide) (fun c_30 => ?_) (fun c_30 => ?_)
      · have c_30n := Nat.not_lt.mpr c_30
        refine lv_iload hx hb dX2_laterClashes_96 (lv_at hl 4 rfl) ?_
        exact wr_iret hx hb hr hlocks hP hS rfl dX2_laterClashes_98 (by exact ⟨by rw [inv24, gF_end c_30], rfl⟩)
      · have c_30n := Nat.not_le.mpr c_30
        refine lv_iconst (v := 0) hx hb dX2_laterClashes_33 (by decide) ?_
        refine lv_istore (lv' := [(6, .int 0), (0, .ref op), (1, .ref ob), (2, .int (nI i)), (3, .int (nI q)), (4, .int a), (5, .int (nI j))]) hx hb dX2_laterClashes_34 hl (by decide) rfl (fun ls hl => ?_)
        suffices loop36 : ∀ (k36 k : Nat) (b : Int32) (H : Heap) (locs : List Loc) (ls : Array Slot), k ≤ 4 → 4 + 1 ≤ k + k36 → (gLc n aO P i (nI q) = gF n (gLcO aO P i (nI q)) (j + 1) (gF 4 (gLcI aO P i (nI q) j) k b)) → va_P D vwCl (PlW op xO xW xN xC xA xM xG xT xH xR xF xB xX ob oc cI cZ (nI n) aO aW aN aC aA kS aM aG aT aH aR aF kF aB kT aX (nI n) f) H → va_D (wr_in (PlW op xO xW xN xC xA xM xG xT xH xR xF xB xX ob oc cI cZ (nI n) aO aW aN aC aA kS aM aG aT aH aR aF kF aB kT aX (nI n) f)) (PlW op xO xW xN xC xA xM xG xT xH xR xF xB xX ob oc cI cZ (nI n) aO aW aN aC aA kS aM aG aT aH aR aF kF aB kT aX (nI n) f) → va_S (wr_in (PlW op xO xW xN xC xA xM xG xT xH xR xF xB xX ob oc cI cZ (nI n) aO aW aN aC aA kS aM aG aT aH aR aF kF aB kT aX (nI n) f)) s.heap H locs → lv_has ls 7 [(0, .ref op), (1, .ref ob), (2, .int (nI i)), (3, .int (nI q)), (4, .int b), (5, .int (nI j)), (6, .int (nI k))] → wr_W p l e wsX2_laterClashes ({ frames := 3, cells := 0, slots := 0, locals := 72 } : Room) s m [.ref op, .ref ob, .int (nI i), .int (nI q)] below meth c D (PlW op xO xW xN xC xA xM xG xT xH xR xF xB xX ob oc cI cZ (nI n) aO aW aN aC aA kS aM aG aT aH aR aF kF aB kT aX (nI n) f) (fun v w9 => v = some (.int (gLc n aO P i (nI q))) ∧ w9 = PlW op xO xW xN xC xA xM xG xT xH xR xF xB xX ob oc cI cZ (nI n) aO aW aN aC aA kS aM aG aT aH aR aF kF aB kT aX (nI n) f) H locs (F0 m 36 ls []) from
          loop36 (4 + 1) 0 a H locs ls (by omega) (by omega) (by rw [inv24, gF_step c_30]; rfl) hP hD hS (lv_sub hl [1, 2, 3, 4, 5, 6, 0] rfl)
        intro k36
        induction k36 with
        | zero => intro k b H locs ls h1 h2; exact absurd h2 (by omega)
        | succ k36 ih36 =>
          intro k b H locs ls hle36 hlt36 inv36 hP hD hS hl
          refine lv_iload hx hb dX2_laterClashes_36 (lv_at hl 6 rfl) ?_
          refine lv_iconst (v := 4) hx hb dX2_laterClashes_38 (by decide) ?_
          refine rd_icmp_ge_n (a := k) (b := 4) (tgt := 90) (by omega) (by omega) hx hb dX2_laterClashes_39 (by decide) (fun c_39 => ?_) (fun c_39 => ?_)
          · have c_39n := Nat.not_lt.mpr c_39
            refine lv_iinc (v := nI (j + 1)) (lv' := [(5, .int (nI (j + 1))), (0, .ref op), (1, .ref ob), (2, .int (nI i)), (3, .int (nI q)), (4, .int b), (6, .int (nI k))]) hx hb dX2_laterClashes_90 hl (k := 5) rfl (nI_add j 1) (by decide) rfl (fun ls hl => ?_)
            refine lv_goto (tgt := 24) hx hb dX2_laterClashes_93 (by decide) ?_
            exact ih24 (j + 1) b H locs ls (by omega) (by omega) (by rw [inv36, gF_end (n := 4) c_39]) hP hD hS (lv_sub hl [1, 2, 3, 4, 5, 0] rfl)
          · have c_39n := Nat.not_le.mpr c_39
            refine lv_aload_n hx hb dX2_laterClashes_42 rfl (lv_at hl 0 rfl) ?_
            refine va_get (D := D) (ci := 2) (v := .ref xO) (C := RX2) (T := TX2) (N := 17) hx hb hts hinX2 hown hK hP 0 rfl rfl 1 (by decide) hw15 (fun _ h9 => h9) rfl dX2_laterClashes_43 ?_
            refine lv_iload hx hb dX2_laterClashes_46 (lv_at hl 5 rfl) ?_
            refine rd_ald (q0 := 1) (t0 := 0) (j := j) (v := aO j) hx hb hK hP rfl rfl (rfl) (by omega) (by decide) (rfl) dX2_laterClashes_48 ?_
            refine lv_iload hx hb dX2_laterClashes_49 (lv_at hl 6 rfl) ?_
            refine rd_callSN (As := [.int (aO j), .int (nI k)]) (rest := []) ⟨hx, hb, hml, hown, hts⟩ (c_X4_hasBit l D (aO j) (nI k)) ⟨va_cnB 2 hts gX2_laterClashes_X4_hasBit_n79 rfl rfl rfl hN.2 (hts (.initialized RX4) (by decide +kernel)) (by decide +kernel) ⟨by decide, by decide⟩, hts (.static yX4_hasBit) (by decide +kernel), trivial⟩ hK hN hP rfl hl.1 rfl (Nat.le_of_ble_eq_true rfl) ⟨by decide, by decide⟩ dX2_laterClashes_51 ?_
            refine rd_ifeq_b (tgt := 84) hx hb dX2_laterClashes_54 (by decide) (fun c_54 => ?_) (fun c_54 => ?_)
            · refine lv_iinc (v := nI (k + 1)) (lv' := [(6, .int (nI (k + 1))), (0, .ref op), (1, .ref ob), (2, .int (nI i)), (3, .int (nI q)), (4, .int b), (5, .int (nI j))]) hx hb dX2_laterClashes_84 hl (k := 6) rfl (nI_add k 1) (by decide) rfl (fun ls hl => ?_)
              refine lv_goto (tgt := 36) hx hb dX2_laterClashes_87 (by decide) ?_
              exact ih36 (k + 1) b H locs ls (by omega) (by omega) (by rw [inv36, gF_step (n := 4) c_39]; simp [gLcI, c_54]) hP hD hS (lv_sub hl [1, 2, 3, 4, 5, 6, 0] rfl)
            · refine lv_aload_n hx hb dX2_laterClashes_57 rfl (lv_at hl 1 rfl) ?_
              refine lv_iload_n hx hb dX2_laterClashes_58 rfl (lv_at hl 2 rfl) ?_
              refine lv_iload_n hx hb dX2_laterClashes_59 rfl (lv_at hl 3 rfl) ?_
              refine lv_iload hx hb dX2_laterClashes_60 (lv_at hl 5 rfl) ?_
              refine lv_iload hx hb dX2_laterClashes_62 (lv_at hl 6 rfl) ?_
              refine rd_callV (As := [.int (nI i), .int (nI q), .int (nI j), .int (nI k)]) (rest := []) ⟨hx, hb, hml, hown, hts⟩ (c_X0_sharedSquares l D hbd hi (nI q) c_30 (nI k)) (cwV 4 hts gX2_laterClashes_X0_sharedSquares rfl rfl rfl (by decide +kernel) ⟨by decide, by decide⟩) hK hN hP (q0 := 14) rfl rfl rfl hl.1 rfl (Nat.le_of_ble_eq_true rfl) ⟨by decide, by decide⟩ dX2_laterClashes_64 ?_
              refine lv_if_le (tgt := 84) hx hb dX2_laterClashes_67 (by decide) (fun c_67 => ?_) (fun c_67 => ?_)
              · have c_67n := Int32.not_lt.mpr c_67
                refine lv_iinc (v := nI (k + 1)) (lv' := [(6, .int (nI (k + 1))), (0, .ref op), (1, .ref ob), (2, .int (nI i)), (3, .int (nI q)), (4, .int b), (5, .int (nI j))]) hx hb dX2_laterClashes_84 hl (k := 6) rfl (nI_add k 1) (by decide) rfl (fun ls hl => ?_)
                refine lv_goto (tgt := 36) hx hb dX2_laterClashes_87 (by decide) ?_
                exact ih36 (k + 1) b H locs ls (by omega) (by omega) (by rw [inv36, gF_step (n := 4) c_39]; simp [gLcI, c_54, c_67, c_67n]) hP hD hS (lv_sub hl [1, 2, 3, 4, 5, 6, 0] rfl)
              · have c_67n := Int32.not_le.mp c_67
                refine lv_iload hx hb dX2_laterClashes_70 (lv_at hl 4 rfl) ?_
                refine lv_iconst (v := 1) hx hb dX2_laterClashes_72 (by decide) ?_
                refine lv_iload hx hb dX2_laterClashes_73 (lv_at hl 5 rfl) ?_
                refine lv_iconst (v := 4) hx hb dX2_laterClashes_75 (by decide) ?_
                refine lv_imul hx hb dX2_laterClashes_76 ?_
                refine lv_asi (y := nI (j * 4)) (pk_mul j 4) ?_
                refine lv_iload hx hb dX2_laterClashes_77 (lv_at hl 6 rfl) ?_
                refine lv_iadd hx hb dX2_laterClashes_79 ?_
                refine lv_asi (y := nI ((j * 4) + k)) (nI_add (j * 4) k) ?_
                refine lv_ishl hx hb dX2_laterClashes_80 ?_
                refine lv_ior hx hb dX2_laterClashes_81 ?_
                refine lv_istore (lv' := [(4, .int (b ||| (1 <<< (nI ((j * 4) + k) &&& 31)))), (0, .ref op), (1, .ref ob), (2, .int (nI i)), (3, .int (nI q)), (5, .int (nI j)), (6, .int (nI k))]) hx hb dX2_laterClashes_82 hl (by decide) rfl (fun ls hl => ?_)
                refine lv_iinc (v := nI (k + 1)) (lv' := [(6, .int (nI (k + 1))), (4, .int (b ||| (1 <<< (nI ((j * 4) + k) &&& 31)))), (0, .ref op), (1, .ref ob), (2, .int (nI i)), (3, .int (nI q)), (5, .int (nI j))]) hx hb dX2_laterClashes_84 hl (k := 6) rfl (nI_add k 1) (by decide) rfl (fun ls hl => ?_)
                refine lv_goto (tgt := 36) hx hb dX2_laterClashes_87 (by decide) ?_
                exact ih36 (k + 1) (b ||| (1 <<< (nI ((j * 4) + k) &&& 31))) H locs ls (by omega) (by omega) (by rw [inv36, gF_step (n := 4) c_39]; simp [gLcI, c_54, c_67, c_67n]) hP hD hS (lv_sub hl [2, 3, 4, 5, 1, 6, 0] rfl)
  · refine lv_iload hx hb dX2_laterClashes_16 (lv_at hl 0 rfl) ?_
    exact wr_iret hx hb hr hlocks hP hS rfl dX2_laterClashes_18 (by exact ⟨by simp [gLc, c_13], rfl⟩)
set_option maxHeartbeats 4000000 in
set_option maxRecDepth 100000 in
theorem c_X2_clashingPairs (l : Launch) (D : va_G) {op xO xW xN xC xA xM xG xT xH xR xF xB xX ob oc : Nat} {cI : ClassId} {cZ : ClassId} {n : Nat} {P : Nat → Nat → Int32} {kS kF kT : Int32} {aO aW aN aC aA aM aG aT aH aR aF aB aX f : Nat → Int32} (hn8 : n ≤ 8) : wr_M l yX2_clashingPairs wsX2_clashingPairs ({ frames := 0, cells := 0, slots := 0, locals := 0 } : Room) D (PlW op xO xW xN xC xA xM xG xT xH xR xF xB xX ob oc cI cZ (nI n) aO aW aN aC aA kS aM aG aT aH aR aF kF aB kT aX (nI n) f) [(cI, .int), (cZ, .boolean)] [.ref op] (fun v w9 => v = some (.int (gCP n aC)) ∧ w9 = PlW op xO xW xN xC xA xM xG xT xH xR xF xB xX ob oc cI cZ (nI n) aO aW aN aC aA kS aM aG aT aH aR aF kF aB kT aX (nI n) f) := by
  refine wr_of (cc := cX2_clashingPairs) (maxL := 5) (ret := some .int) (by decide) rfl (Nat.le_of_ble_eq_true rfl) ?_
  intro p e s m below meth c hx hb hr hml hts hown hlocks hP hK hN hZ hD hS ls hl
  have hown : s.vm.findClass RX2 = some m.cls := hown
  have hl : lv_has ls 5 [(0, .ref op)] := hl
  have hinX2 : ∀ w ∈ u_ws RX2 TX2 17, w ∈ wsX2_clashingPairs := by decide +kernel
  have hw9 := hts (.fieldLink RX2 9 "CornerLabels$Plans" "points" "I") (by decide +kernel)
  have hw25 := hts (.fieldLink RX2 25 "CornerLabels$Plans" "clashing" "[I") (by decide +kernel)
  suffices body : ∀ (H : Heap) (locs : List Loc), va_P D vwCl (PlW op xO xW xN xC xA xM xG xT xH xR xF xB xX ob oc cI cZ (nI n) aO aW aN aC aA kS aM aG aT aH aR aF kF aB kT aX (nI n) f) H → va_D (wr_in (PlW op xO xW xN xC xA xM xG xT xH xR xF xB xX ob oc cI cZ (nI n) aO aW aN aC aA kS aM aG aT aH aR aF kF aB kT aX (nI n) f)) (PlW op xO xW xN xC xA xM xG xT xH xR xF xB xX ob oc cI cZ (nI n) aO aW aN aC aA kS aM aG aT aH aR aF kF aB kT aX (nI n) f) → va_S (wr_in (PlW op xO xW xN xC xA xM xG xT xH xR xF xB xX ob oc cI cZ (nI n) aO aW aN aC aA kS aM aG aT aH aR aF kF aB kT aX (nI n) f)) s.heap H locs → wr_W p l e wsX2_clashingPairs ({ frames := 0, cells := 0, slots := 0, locals := 0 } : Room) s m [.ref op] below meth c D (PlW op xO xW xN xC xA xM xG xT xH xR xF xB xX ob oc cI cZ (nI n) aO aW aN aC aA kS aM aG aT aH aR aF kF aB kT aX (nI n) f) (fun v w9 => v = some (.int (gCP n aC)) ∧ w9 = PlW op xO xW xN xC xA xM xG xT xH xR xF xB xX ob oc cI cZ (nI n) aO aW aN aC aA kS aM aG aT aH aR aF kF aB kT aX (nI n) f) H locs (F0 m 0 ls []) from body _ _ hP hD hS
  clear hP hD hS
  intro H locs hP hD hS
  refine lv_iconst (v := 0) hx hb dX2_clashingPairs_0 (by decide) ?_
  refine lv_istore_n (lv' := [(1, .int 0), (0, .ref op)]) hx hb dX2_clashingPairs_1 rfl hl (by decide) rfl (fun ls hl => ?_)
  refine lv_iconst (v := 0) hx hb dX2_clashingPairs_2 (by decide) ?_
  refine lv_istore_n (lv' := [(2, .int 0), (1, .int 0), (0, .ref op)]) hx hb dX2_clashingPairs_3 rfl hl (by decide) rfl (fun ls hl => ?_)
  suffices loop4 : ∀ (k4 i : Nat) (a : Int32) (H : Heap) (locs : List Loc) (ls : Array Slot), i ≤ n → n + 1 ≤ i + k4 → (gCP n aC = gF n (gCPF n aC) i a) → va_P D vwCl (PlW op xO xW xN xC xA xM xG xT xH xR xF xB xX ob oc cI cZ (nI n) aO aW aN aC aA kS aM aG aT aH aR aF kF aB kT aX (nI n) f) H → va_D (wr_in (PlW op xO xW xN xC xA xM xG xT xH xR xF xB xX ob oc cI cZ (nI n) aO aW aN aC aA kS aM aG aT aH aR aF kF aB kT aX (nI n) f)) (PlW op xO xW xN xC xA xM xG xT xH xR xF xB xX ob oc cI cZ (nI n) aO aW aN aC aA kS aM aG aT aH aR aF kF aB kT aX (nI n) f) → va_S (wr_in (PlW op xO xW xN xC xA xM xG xT xH xR xF xB xX ob oc cI cZ (nI n) aO aW aN aC aA kS aM aG aT aH aR aF kF aB kT aX (nI n) f)) s.heap H locs → lv_has ls 5 [(0, .ref op), (1, .int a), (2, .int (nI i))] → wr_W p l e wsX2_clashingPairs ({ frames := 0, cells := 0, slots := 0, locals := 0 } : Room) s m [.ref op] below meth c D (PlW op xO xW xN xC xA xM xG xT xH xR xF xB xX ob oc cI cZ (nI n) aO aW aN aC aA kS aM aG aT aH aR aF kF aB kT aX (nI n) f) (fun v w9 => v = some (.int (gCP n aC)) ∧ w9 = PlW op xO xW xN xC xA xM xG xT xH xR xF xB xX ob oc cI cZ (nI n) aO aW aN aC aA kS aM aG aT aH aR aF kF aB kT aX (nI n) f) H locs (F0 m 4 ls []) from
    loop4 (n + 1) 0 0 H locs ls (by omega) (by omega) (by rfl) hP hD hS (lv_sub hl [2, 1, 0] rfl)
  intro k4
  induction k4 with
  | zero => intro i a H locs ls h1 h2; exact absurd h2 (by omega)
  | succ k4 ih4 =>
    intro i a H locs ls hle4 hlt4 inv4 hP hD hS hl
    refine lv_iload_n hx hb dX2_clashingPairs_4 rfl (lv_at hl 2 rfl) ?_
    refine lv_aload_n hx hb dX2_clashingPairs_5 rfl (lv_at hl 0 rfl) ?_
    refine va_get (D := D) (ci := 2) (v := .int (nI n)) (C := RX2) (T := TX2) (N := 17) hx hb hts hinX2 hown hK hP 0 rfl rfl 0 (by decide) hw9 (fun _ h9 => h9) rfl dX2_clashingPairs_6 ?_
    refine rd_icmp_ge_n (a := i) (b := n) (tgt := 84) (by omega) (by omega) hx hb dX2_clashingPairs_9 (by decide) (fun c_9 => ?_) (fun c_9 => ?_)
    · have c_9n := Nat.not_lt.mpr c_9
      refine lv_iload_n hx hb dX2_clashingPairs_84 rfl (lv_at hl 1 rfl) ?_
      exact wr_iret hx hb hr hlocks hP hS rfl dX2_clashingPairs_85 (by exact ⟨by rw [inv4, gF_end c_9], rfl⟩)
    · have c_9n := Nat.not_le.mpr c_9
      refine lv_iconst (v := 0) hx hb dX2_clashingPairs_12 (by decide) ?_
      refine lv_istore_n (lv' := [(3, .int 0), (0, .ref op), (1, .int a), (2, .int (nI i))]) hx hb dX2_clashingPairs_13 rfl hl (by decide) rfl (fun ls hl => ?_)
      refine lv_iconst (v := 0) hx hb dX2_clashingPairs_14 (by decide) ?_
      refine lv_istore (lv' := [(4, .int 0), (3, .int 0), (0, .ref op), (1, .int a), (2, .int (nI i))]) hx hb dX2_clashingPairs_15 hl (by decide) rfl (fun ls hl => ?_)
      suffices loop17 : ∀ (k17 k : Nat) (b : Int32) (H : Heap) (locs : List Loc) (ls : Array Slot), k ≤ 4 → 4 + 1 ≤ k + k17 → (gPM aC i = gF 4 (gPMF aC i) k b) → va_P D vwCl (PlW op xO xW xN xC xA xM xG xT xH xR xF xB xX ob oc cI cZ (nI n) aO aW aN aC aA kS aM aG aT aH aR aF kF aB kT aX (nI n) f) H → va_D (wr_in (PlW op xO xW xN xC xA xM xG xT xH xR xF xB xX ob oc cI cZ (nI n) aO aW aN aC aA kS aM aG aT aH aR aF kF aB kT aX (nI n) f)) (PlW op xO xW xN xC xA xM xG xT xH xR xF xB xX ob oc cI cZ (nI n) aO aW aN aC aA kS aM aG aT aH aR aF kF aB kT aX (nI n) f) → va_S (wr_in (PlW op xO xW xN xC xA xM xG xT xH xR xF xB xX ob oc cI cZ (nI n) aO aW aN aC aA kS aM aG aT aH aR aF kF aB kT aX (nI n) f)) s.heap H locs → lv_has ls 5 [(0, .ref op), (1, .int a), (2, .int (nI i)), (3, .int b), (4, .int (nI k))] → wr_W p l e wsX2_clashingPairs ({ frames := 0, cells := 0, slots := 0, locals := 0 } : Room) s m [.ref op] below meth c D (PlW op xO xW xN xC xA xM xG xT xH xR xF xB xX ob oc cI cZ (nI n) aO aW aN aC aA kS aM aG aT aH aR aF kF aB kT aX (nI n) f) (fun v w9 => v = some (.int (gCP n aC)) ∧ w9 = PlW op xO xW xN xC xA xM xG xT xH xR xF xB xX ob oc cI cZ (nI n) aO aW aN aC aA kS aM aG aT aH aR aF kF aB kT aX (nI n) f) H locs (F0 m 17 ls []) from
        loop17 (4 + 1) 0 0 H locs ls (by omega) (by omega) (by rfl) hP hD hS (lv_sub hl [2, 3, 4, 1, 0] rfl)
      intro k17
      induction k17 with
      | zero => intro k b H locs ls h1 h2; exact absurd h2 (by omega)
      | succ k17 ih17 =>
        intro k b H locs ls hle17 hlt17 inv17 hP hD hS hl
        refine lv_iload hx hb dX2_clashingPairs_17 (lv_at hl 4 rfl) ?_
        refine lv_iconst (v := 4) hx hb dX2_clashingPairs_19 (by decide) ?_
        refine rd_icmp_ge_n (a := k) (b := 4) (tgt := 43) (by omega) (by omega) hx hb dX2_clashingPairs_20 (by decide) (fun c_20 => ?_) (fun c_20 => ?_)
        · have c_20n := Nat.not_lt.mpr c_20
          refine lv_iload_n hx hb dX2_clashingPairs_43 rfl (lv_at hl 2 rfl) ?_
          refine lv_iconst (v := 1) hx hb dX2_clashingPairs_44 (by decide) ?_
          refine lv_iadd hx hb dX2_clashingPairs_45 ?_
          refine lv_asi (y := nI (i + 1)) (nI_add i 1) ?_
          refine lv_istore (lv' := [(4, .int (nI (i + 1))), (0, .ref op), (1, .int a), (2, .int (nI i)), (3, .int b)]) hx hb dX2_clashingPairs_46 hl (by decide) rfl (fun ls hl => ?_)
          suffices loop48 : ∀ (k48 j : Nat) (a2 : Int32) (H : Heap) (locs : List Loc) (ls : Array Slot), j ≤ n → n + 1 ≤ j + k48 → (gCP n aC = gF n (gCPF n aC) (i + 1) (gF n (gPJ (gPM aC i)) j a2)) → va_P D vwCl (PlW op xO xW xN xC xA xM xG xT xH xR xF xB xX ob oc cI cZ (nI n) aO aW aN aC aA kS aM aG aT aH aR aF kF aB kT aX (nI n) f) H → va_D (wr_in (PlW op xO xW xN xC xA xM xG xT xH xR xF xB xX ob oc cI cZ (nI n) aO aW aN aC aA kS aM aG aT aH aR aF kF aB kT aX (nI n) f)) (PlW op xO xW xN xC xA xM xG xT xH xR xF xB xX ob oc cI cZ (nI n) aO aW aN aC aA kS aM aG aT aH aR aF kF aB kT aX (nI n) f) → va_S (wr_in (PlW op xO xW xN xC xA xM xG xT xH xR xF xB xX ob oc cI cZ (nI n) aO aW aN aC aA kS aM aG aT aH aR aF kF aB kT aX (nI n) f)) s.heap H locs → lv_has ls 5 [(0, .ref op), (1, .int a2), (2, .int (nI i)), (3, .int b), (4, .int (nI j))] → wr_W p l e wsX2_clashingPairs ({ frames := 0, cells := 0, slots := 0, locals := 0 } : Room) s m [.ref op] below meth c D (PlW op xO xW xN xC xA xM xG xT xH xR xF xB xX ob oc cI cZ (nI n) aO aW aN aC aA kS aM aG aT aH aR aF kF aB kT aX (nI n) f) (fun v w9 => v = some (.int (gCP n aC)) ∧ w9 = PlW op xO xW xN xC xA xM xG xT xH xR xF xB xX ob oc cI cZ (nI n) aO aW aN aC aA kS aM aG aT aH aR aF kF aB kT aX (nI n) f) H locs (F0 m 48 ls []) from
            loop48 (n + 1) (i + 1) a H locs ls (by omega) (by omega) (by rw [inv4, gF_step c_9]; rfl) hP hD hS (lv_sub hl [1, 2, 3, 4, 0] rfl)
          intro k48
          induction k48 with
          | zero => intro j a2 H locs ls h1 h2; exact absurd h2 (by omega)
          | succ k48 ih48 =>
            intro j a2 H locs ls hle48 hlt48 inv48 hP hD hS hl
            have e3b : gPM aC i = b := by rw [inv17, gF_end (n := 4) c_20]
            refine lv_iload hx hb dX2_clashingPairs_48 (lv_at hl 4 rfl) ?_
            refine lv_aload_n hx hb dX2_clashingPairs_50 rfl (lv_at hl 0 rfl) ?_
            refine va_get (D := D) (ci := 2) (v := .int (nI n)) (C := RX2) (T := TX2) (N := 17) hx hb hts hinX2 hown hK hP 0 rfl rfl 0 (by decide) hw9 (fun _ h9 => h9) rfl dX2_clashingPairs_51 ?_
            refine rd_icmp_ge_n (a := j) (b := n) (tgt := 78) (by omega) (by omega) hx hb dX2_clashingPairs_54 (by decide) (fun c_54 => ?_) (fun c_54 => ?_)
            · have c_54n := Nat.not_lt.mpr c_54
              refine lv_iinc (v := nI (i + 1)) (lv' := [(2, .int (nI (i + 1))), (0, .ref op), (1, .int a2), (3, .int b), (4, .int (nI j))]) hx hb dX2_clashingPairs_78 hl (k := 2) rfl (nI_add i 1) (by decide) rfl (fun ls hl => ?_)
              refine lv_goto (tgt := 4) hx hb dX2_clashingPairs_81 (by decide) ?_
              exact ih4 (i + 1) a2 H locs ls (by omega) (by omega) (by rw [inv48, gF_end c_54]) hP hD hS (lv_sub hl [1, 2, 0] rfl)
            · have c_54n := Nat.not_le.mpr c_54
              refine lv_iload_n hx hb dX2_clashingPairs_57 rfl (lv_at hl 3 rfl) ?_
              refine lv_iload hx hb dX2_clashingPairs_58 (lv_at hl 4 rfl) ?_
              refine lv_iconst (v := 4) hx hb dX2_clashingPairs_60 (by decide) ?_
              refine lv_imul hx hb dX2_clashingPairs_61 ?_
              refine lv_asi (y := nI (j * 4)) (pk_mul j 4) ?_
              refine lv_iushr hx hb dX2_clashingPairs_62 rfl ?_
              refine lv_bipush (v := 15) hx hb dX2_clashingPairs_63 (by decide) ?_
              refine lv_iand hx hb dX2_clashingPairs_65 ?_
              refine lv_if_eq (tgt := 72) hx hb dX2_clashingPairs_66 (by decide) (fun c_66 => ?_) (fun c_66 => ?_)
              · refine lv_iinc (v := nI (j + 1)) (lv' := [(4, .int (nI (j + 1))), (0, .ref op), (1, .int a2), (2, .int (nI i)), (3, .int b)]) hx hb dX2_clashingPairs_72 hl (k := 4) rfl (nI_add j 1) (by decide) rfl (fun ls hl => ?_)
                refine lv_goto (tgt := 48) hx hb dX2_clashingPairs_75 (by decide) ?_
                exact ih48 (j + 1) a2 H locs ls (by omega) (by omega) (by rw [inv48, gF_step c_54]; simp [gPJ, e3b, c_66]) hP hD hS (lv_sub hl [1, 2, 3, 4, 0] rfl)
              · refine lv_iinc (v := a2 + 1) (lv' := [(1, .int (a2 + 1)), (0, .ref op), (2, .int (nI i)), (3, .int b), (4, .int (nI j))]) hx hb dX2_clashingPairs_69 hl (k := 1) rfl (rfl) (by decide) rfl (fun ls hl => ?_)
                refine lv_iinc (v := nI (j + 1)) (lv' := [(4, .int (nI (j + 1))), (1, .int (a2 + 1)), (0, .ref op), (2, .int (nI i)), (3, .int b)]) hx hb dX2_clashingPairs_72 hl (k := 4) rfl (nI_add j 1) (by decide) rfl (fun ls hl => ?_)
                refine lv_goto (tgt := 48) hx hb dX2_clashingPairs_75 (by decide) ?_
                exact ih48 (j + 1) (a2 + 1) H locs ls (by omega) (by omega) (by rw [inv48, gF_step c_54]; simp [gPJ, e3b, c_66]) hP hD hS (lv_sub hl [2, 1, 3, 4, 0] rfl)
        · have c_20n := Nat.not_le.mpr c_20
          refine lv_iload_n hx hb dX2_clashingPairs_23 rfl (lv_at hl 3 rfl) ?_
          refine lv_aload_n hx hb dX2_clashingPairs_24 rfl (lv_at hl 0 rfl) ?_
          refine va_get (D := D) (ci := 2) (v := .ref xC) (C := RX2) (T := TX2) (N := 17) hx hb hts hinX2 hown hK hP 0 rfl rfl 4 (by decide) hw25 (fun _ h9 => h9) rfl dX2_clashingPairs_25 ?_
          refine lv_iload_n hx hb dX2_clashingPairs_28 rfl (lv_at hl 2 rfl) ?_
          refine lv_iconst (v := 4) hx hb dX2_clashingPairs_29 (by decide) ?_
          refine lv_imul hx hb dX2_clashingPairs_30 ?_
          refine lv_asi (y := nI (i * 4)) (pk_mul i 4) ?_
          refine lv_iload hx hb dX2_clashingPairs_31 (lv_at hl 4 rfl) ?_
          refine lv_iadd hx hb dX2_clashingPairs_33 ?_
          refine lv_asi (y := nI ((i * 4) + k)) (nI_add (i * 4) k) ?_
          refine rd_ald (q0 := 4) (t0 := 0) (j := (i * 4) + k) (v := aC ((i * 4) + k)) hx hb hK hP rfl rfl (rfl) (by omega) (by decide) (rfl) dX2_clashingPairs_34 ?_
          refine lv_ior hx hb dX2_clashingPairs_35 ?_
          refine lv_istore_n (lv' := [(3, .int (b ||| (aC ((i * 4) + k)))), (0, .ref op), (1, .int a), (2, .int (nI i)), (4, .int (nI k))]) hx hb dX2_clashingPairs_36 rfl hl (by decide) rfl (fun ls hl => ?_)
          refine lv_iinc (v := nI (k + 1)) (lv' := [(4, .int (nI (k + 1))), (3, .int (b ||| (aC ((i * 4) + k)))), (0, .ref op), (1, .int a), (2, .int (nI i))]) hx hb dX2_clashingPairs_37 hl (k := 4) rfl (nI_add k 1) (by decide) rfl (fun ls hl => ?_)
          refine lv_goto (tgt := 17) hx hb dX2_clashingPairs_40 (by decide) ?_
          exact ih17 (k + 1) (b ||| (aC ((i * 4) + k))) H locs ls (by omega) (by omega) (by rw [inv17, gF_step (n := 4) c_20]; rfl) hP hD hS (lv_sub hl [2, 3, 4, 1, 0] rfl)
set_option maxHeartbeats 4000000 in
set_option maxRecDepth 100000 in
theorem c_X2_keepTrial (l : Launch) (D : va_G) {op xO xW xN xC xA xM xG xT xH xR xF xB xX ob oc : Nat} {cI : ClassId} {cZ : ClassId} {n : Nat} {P : Nat → Nat → Int32} {kS kF kT : Int32} {aO aW aN aC aA aM aG aT aH aR aF aB aX f : Nat → Int32} (sc : Int32) : wr_M l yX2_keepTrial wsX2_keepTrial ({ frames := 1, cells := 0, slots := 0, locals := 60 } : Room) D (PlW op xO xW xN xC xA xM xG xT xH xR xF xB xX ob oc cI cZ (nI n) aO aW aN aC aA kS aM aG aT aH aR aF kF aB kT aX (nI n) f) [(cI, .int), (cZ, .boolean)] [.ref op, .int sc] (fun v w9 => v = none ∧ w9 = PlW op xO xW xN xC xA xM xG xT xH xR xF xB xX ob oc cI cZ (nI n) aO aW aN aC aA kS aM aG aT aH aR (if kF < sc then va_cpy aR aF 0 0 8 else aF) (if kF < sc then sc else kF) aB kT aX (nI n) f) := by
  refine wr_of (cc := cX2_keepTrial) (maxL := 2) (ret := none) (by decide) rfl (Nat.le_of_ble_eq_true rfl) ?_
  intro p e s m below meth c hx hb hr hml hts hown hlocks hP hK hN hZ hD hS ls hl
  have hown : s.vm.findClass RX2 = some m.cls := hown
  have hl : lv_has ls 2 [(0, .ref op), (1, .int sc)] := hl
  have hinX2 : ∀ w ∈ u_ws RX2 TX2 17, w ∈ wsX2_keepTrial := by decide +kernel
  have hw53 := hts (.fieldLink RX2 53 "CornerLabels$Plans" "foundScore" "I") (by decide +kernel)
  have hw47 := hts (.fieldLink RX2 47 "CornerLabels$Plans" "trial" "[I") (by decide +kernel)
  have hw50 := hts (.fieldLink RX2 50 "CornerLabels$Plans" "found" "[I") (by decide +kernel)
  suffices body : ∀ (H : Heap) (locs : List Loc), va_P D vwCl (PlW op xO xW xN xC xA xM xG xT xH xR xF xB xX ob oc cI cZ (nI n) aO aW aN aC aA kS aM aG aT aH aR aF kF aB kT aX (nI n) f) H → va_D (wr_in (PlW op xO xW xN xC xA xM xG xT xH xR xF xB xX ob oc cI cZ (nI n) aO aW aN aC aA kS aM aG aT aH aR aF kF aB kT aX (nI n) f)) (PlW op xO xW xN xC xA xM xG xT xH xR xF xB xX ob oc cI cZ (nI n) aO aW aN aC aA kS aM aG aT aH aR aF kF aB kT aX (nI n) f) → va_S (wr_in (PlW op xO xW xN xC xA xM xG xT xH xR xF xB xX ob oc cI cZ (nI n) aO aW aN aC aA kS aM aG aT aH aR aF kF aB kT aX (nI n) f)) s.heap H locs → wr_W p l e wsX2_keepTrial ({ frames := 1, cells := 0, slots := 0, locals := 60 } : Room) s m [.ref op, .int sc] below meth c D (PlW op xO xW xN xC xA xM xG xT xH xR xF xB xX ob oc cI cZ (nI n) aO aW aN aC aA kS aM aG aT aH aR aF kF aB kT aX (nI n) f) (fun v w9 => v = none ∧ w9 = PlW op xO xW xN xC xA xM xG xT xH xR xF xB xX ob oc cI cZ (nI n) aO aW aN aC aA kS aM aG aT aH aR (if kF < sc then va_cpy aR aF 0 0 8 else aF) (if kF < sc then sc else kF) aB kT aX (nI n) f) H locs (F0 m 0 ls []) from body _ _ hP hD hS
  clear hP hD hS
  intro H locs hP hD hS
  refine lv_iload_n hx hb dX2_keepTrial_0 rfl (lv_at hl 1 rfl) ?_
  refine lv_aload_n hx hb dX2_keepTrial_1 rfl (lv_at hl 0 rfl) ?_
  refine va_get (D := D) (ci := 2) (v := .int kF) (C := RX2) (T := TX2) (N := 17) hx hb hts hinX2 hown hK hP 0 rfl rfl 13 (by decide) hw53 (fun _ h9 => h9) rfl dX2_keepTrial_2 ?_
  refine lv_icmp_le (tgt := 28) hx hb dX2_keepTrial_5 (by decide) (fun c_5 => ?_) (fun c_5 => ?_)
  · have c_5n := Int32.not_lt.mpr c_5
    exact wr_vret hx hb hr hlocks hP hS rfl dX2_keepTrial_28 (by exact ⟨rfl, by simp [c_5, c_5n] <;> rfl⟩)
  · have c_5n := Int32.not_le.mp c_5
    refine lv_aload_n hx hb dX2_keepTrial_8 rfl (lv_at hl 0 rfl) ?_
    refine lv_iload_n hx hb dX2_keepTrial_9 rfl (lv_at hl 1 rfl) ?_
    refine va_put (D := D) (ci := 2) (v := .int sc) (ty := .int) (C := RX2) (T := TX2) (N := 17) hx hb hts hinX2 tyX2 tyX2_ok nmX2 hown hK hP hD hS 0 rfl rfl 13 (by decide) hw53 (fun _ h9 => h9) rfl (by decide +kernel) rfl rfl (Nat.le_of_ble_eq_true rfl) dX2_keepTrial_10 (fun H locs hP hD hS => ?_)
    have hP : va_P D vwCl (PlW op xO xW xN xC xA xM xG xT xH xR xF xB xX ob oc cI cZ (nI n) aO aW aN aC aA kS aM aG aT aH aR aF sc aB kT aX (nI n) f) H := hP
    have hD : va_D (wr_in (PlW op xO xW xN xC xA xM xG xT xH xR xF xB xX ob oc cI cZ (nI n) aO aW aN aC aA kS aM aG aT aH aR aF kF aB kT aX (nI n) f)) (PlW op xO xW xN xC xA xM xG xT xH xR xF xB xX ob oc cI cZ (nI n) aO aW aN aC aA kS aM aG aT aH aR aF sc aB kT aX (nI n) f) := hD
    refine lv_aload_n hx hb dX2_keepTrial_13 rfl (lv_at hl 0 rfl) ?_
    refine va_get (D := D) (ci := 2) (v := .ref xR) (C := RX2) (T := TX2) (N := 17) hx hb hts hinX2 hown hK hP 0 rfl rfl 11 (by decide) hw47 (fun _ h9 => h9) rfl dX2_keepTrial_14 ?_
    refine lv_iconst (v := 0) hx hb dX2_keepTrial_17 (by decide) ?_
    refine lv_aload_n hx hb dX2_keepTrial_18 rfl (lv_at hl 0 rfl) ?_
    refine va_get (D := D) (ci := 2) (v := .ref xF) (C := RX2) (T := TX2) (N := 17) hx hb hts hinX2 hown hK hP 0 rfl rfl 12 (by decide) hw50 (fun _ h9 => h9) rfl dX2_keepTrial_19 ?_
    refine lv_iconst (v := 0) hx hb dX2_keepTrial_22 (by decide) ?_
    refine lv_bipush (v := 8) hx hb dX2_keepTrial_23 (by decide) ?_
    refine wr_copy (q0 := 10) (q1 := 11) (t0 := 0) (sp := 0) (dp := 0) (k := 8) hx hb (hml.trans hl.1.symm) hown (hts (.methodLink RX2 94 arraycopyName) (by decide +kernel)) (hts (.native arraycopyName) (by decide +kernel)) (hts (.static arraycopyName) (by decide +kernel)) (hts (.initialized "java/lang/System") (by decide +kernel)) hK hP hD hS rfl rfl rfl (rfl) (rfl) (rfl) (by omega) (by omega) (by decide) (by decide) (by decide) (by decide) dX2_keepTrial_25 (Nat.le_of_ble_eq_true rfl) (fun H locs hP hD hS => ?_)
    obtain ⟨aF_25, eaF_25⟩ : ∃ zz9 : Nat → Int32, zz9 = va_cpy aR aF 0 0 8 := ⟨_, rfl⟩
    rw [← eaF_25] at hP hD
    have hP : va_P D vwCl (PlW op xO xW xN xC xA xM xG xT xH xR xF xB xX ob oc cI cZ (nI n) aO aW aN aC aA kS aM aG aT aH aR aF_25 sc aB kT aX (nI n) f) H := hP
    have hD : va_D (wr_in (PlW op xO xW xN xC xA xM xG xT xH xR xF xB xX ob oc cI cZ (nI n) aO aW aN aC aA kS aM aG aT aH aR aF kF aB kT aX (nI n) f)) (PlW op xO xW xN xC xA xM xG xT xH xR xF xB xX ob oc cI cZ (nI n) aO aW aN aC aA kS aM aG aT aH aR aF_25 sc aB kT aX (nI n) f) := hD
    exact wr_vret hx hb hr hlocks hP hS rfl dX2_keepTrial_28 (by exact ⟨rfl, by simp [eaF_25, c_5, c_5n] <;> rfl⟩)
