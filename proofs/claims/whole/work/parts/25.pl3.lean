set_option maxHeartbeats 4000000 in
set_option maxRecDepth 100000 in
theorem c_X2_look (l : Launch) (D : va_G) {op xO xW xN xC xA xM xG xT xH xR xF xB xX ob oc : Nat} {cI : ClassId} {cZ : ClassId} {n : Nat} {P : Nat → Nat → Int32} {kS kF kT : Int32} {aO aW aN aC aA aM aG aT aH aR aF aB aX f : Nat → Int32} {kn0 : Int32} (hn8 : n ≤ 8) (hf : ∀ i, i < n → ∀ k, k < 6 → f (8 * k + i) = P i k) : wr_M l yX2_look wsX2_look ({ frames := 4, cells := 0, slots := 0, locals := 98 } : Room) D (PlW op xO xW xN xC xA xM xG xT xH xR xF xB xX ob oc cI cZ kn0 aO aW aN aC aA kS aM aG aT aH aR aF kF aB kT aX (nI n) f) [(cI, .int), (cZ, .boolean)] [.ref op, .ref ob] (fun v w9 => ∃ (aO9 aW9 aN9 aC9 : Nat → Int32), lkI n n P aO9 aW9 aN9 ∧ lcI n n aO9 P aC9 ∧ v = none ∧ w9 = PlW op xO xW xN xC xA xM xG xT xH xR xF xB xX ob oc cI cZ (nI n) aO9 aW9 aN9 aC9 aA kS aM aG aT aH aR aF kF aB kT aX (nI n) f) := by
  refine wr_of (cc := cX2_look) (maxL := 4) (ret := none) (by decide) rfl (Nat.le_of_ble_eq_true rfl) ?_
  intro p e s m below meth c hx hb hr hml hts hown hlocks hP hK hN hZ hD hS ls hl
  have hown : s.vm.findClass RX2 = some m.cls := hown
  have hl : lv_has ls 4 [(0, .ref op), (1, .ref ob)] := hl
  have hinX0 : ∀ w ∈ u_ws RX0 TX0 2, w ∈ wsX2_look := by decide +kernel
  have hw65 := hts (.fieldLink RX2 65 "CornerLabels$Board" "points" "I") (by decide +kernel)
  have hinX2 : ∀ w ∈ u_ws RX2 TX2 17, w ∈ wsX2_look := by decide +kernel
  have hw9 := hts (.fieldLink RX2 9 "CornerLabels$Plans" "points" "I") (by decide +kernel)
  have hw25 := hts (.fieldLink RX2 25 "CornerLabels$Plans" "clashing" "[I") (by decide +kernel)
  have hw15 := hts (.fieldLink RX2 15 "CornerLabels$Plans" "open" "[I") (by decide +kernel)
  have hw19 := hts (.fieldLink RX2 19 "CornerLabels$Plans" "weight" "[I") (by decide +kernel)
  have hw72 := hts (.fieldLink RX2 72 "CornerLabels$Board" "cells" "[I") (by decide +kernel)
  have hw22 := hts (.fieldLink RX2 22 "CornerLabels$Plans" "now" "[I") (by decide +kernel)
  suffices body : ∀ (H : Heap) (locs : List Loc), va_P D vwCl (PlW op xO xW xN xC xA xM xG xT xH xR xF xB xX ob oc cI cZ kn0 aO aW aN aC aA kS aM aG aT aH aR aF kF aB kT aX (nI n) f) H → va_D (wr_in (PlW op xO xW xN xC xA xM xG xT xH xR xF xB xX ob oc cI cZ kn0 aO aW aN aC aA kS aM aG aT aH aR aF kF aB kT aX (nI n) f)) (PlW op xO xW xN xC xA xM xG xT xH xR xF xB xX ob oc cI cZ kn0 aO aW aN aC aA kS aM aG aT aH aR aF kF aB kT aX (nI n) f) → va_S (wr_in (PlW op xO xW xN xC xA xM xG xT xH xR xF xB xX ob oc cI cZ kn0 aO aW aN aC aA kS aM aG aT aH aR aF kF aB kT aX (nI n) f)) s.heap H locs → wr_W p l e wsX2_look ({ frames := 4, cells := 0, slots := 0, locals := 98 } : Room) s m [.ref op, .ref ob] below meth c D (PlW op xO xW xN xC xA xM xG xT xH xR xF xB xX ob oc cI cZ kn0 aO aW aN aC aA kS aM aG aT aH aR aF kF aB kT aX (nI n) f) (fun v w9 => ∃ (aO9 aW9 aN9 aC9 : Nat → Int32), lkI n n P aO9 aW9 aN9 ∧ lcI n n aO9 P aC9 ∧ v = none ∧ w9 = PlW op xO xW xN xC xA xM xG xT xH xR xF xB xX ob oc cI cZ (nI n) aO9 aW9 aN9 aC9 aA kS aM aG aT aH aR aF kF aB kT aX (nI n) f) H locs (F0 m 0 ls []) from body _ _ hP hD hS
  clear hP hD hS
  intro H locs hP hD hS
  refine lv_aload_n hx hb dX2_look_0 rfl (lv_at hl 0 rfl) ?_
  refine lv_aload_n hx hb dX2_look_1 rfl (lv_at hl 1 rfl) ?_
  refine va_get (D := D) (ci := 0) (v := .int (nI n)) (C := RX0) (T := TX0) (N := 2) hx hb hts hinX0 hown hK hP 14 rfl rfl 1 (by decide) hw65 (fun _ h9 => h9) rfl dX2_look_2 ?_
  refine va_put (D := D) (ci := 2) (v := .int (nI n)) (ty := .int) (C := RX2) (T := TX2) (N := 17) hx hb hts hinX2 tyX2 tyX2_ok nmX2 hown hK hP hD hS 0 rfl rfl 0 (by decide) hw9 (fun _ h9 => h9) rfl (by decide +kernel) rfl rfl (Nat.le_of_ble_eq_true rfl) dX2_look_5 (fun H locs hP hD hS => ?_)
  have hP : va_P D vwCl (PlW op xO xW xN xC xA xM xG xT xH xR xF xB xX ob oc cI cZ (nI n) aO aW aN aC aA kS aM aG aT aH aR aF kF aB kT aX (nI n) f) H := hP
  have hD : va_D (wr_in (PlW op xO xW xN xC xA xM xG xT xH xR xF xB xX ob oc cI cZ kn0 aO aW aN aC aA kS aM aG aT aH aR aF kF aB kT aX (nI n) f)) (PlW op xO xW xN xC xA xM xG xT xH xR xF xB xX ob oc cI cZ (nI n) aO aW aN aC aA kS aM aG aT aH aR aF kF aB kT aX (nI n) f) := hD
  refine lv_iconst (v := 0) hx hb dX2_look_8 (by decide) ?_
  refine lv_istore_n (lv' := [(2, .int 0), (0, .ref op), (1, .ref ob)]) hx hb dX2_look_9 rfl hl (by decide) rfl (fun ls hl => ?_)
  suffices loop10 : ∀ (k10 i : Nat) (aO1 : Nat → Int32) (aW1 : Nat → Int32) (aN1 : Nat → Int32) (H : Heap) (locs : List Loc) (ls : Array Slot), i ≤ n → n + 1 ≤ i + k10 → (lkI i n P aO1 aW1 aN1) → va_P D vwCl (PlW op xO xW xN xC xA xM xG xT xH xR xF xB xX ob oc cI cZ (nI n) aO1 aW1 aN1 aC aA kS aM aG aT aH aR aF kF aB kT aX (nI n) f) H → va_D (wr_in (PlW op xO xW xN xC xA xM xG xT xH xR xF xB xX ob oc cI cZ kn0 aO aW aN aC aA kS aM aG aT aH aR aF kF aB kT aX (nI n) f)) (PlW op xO xW xN xC xA xM xG xT xH xR xF xB xX ob oc cI cZ (nI n) aO1 aW1 aN1 aC aA kS aM aG aT aH aR aF kF aB kT aX (nI n) f) → va_S (wr_in (PlW op xO xW xN xC xA xM xG xT xH xR xF xB xX ob oc cI cZ kn0 aO aW aN aC aA kS aM aG aT aH aR aF kF aB kT aX (nI n) f)) s.heap H locs → lv_has ls 4 [(0, .ref op), (1, .ref ob), (2, .int (nI i))] → wr_W p l e wsX2_look ({ frames := 4, cells := 0, slots := 0, locals := 98 } : Room) s m [.ref op, .ref ob] below meth c D (PlW op xO xW xN xC xA xM xG xT xH xR xF xB xX ob oc cI cZ kn0 aO aW aN aC aA kS aM aG aT aH aR aF kF aB kT aX (nI n) f) (fun v w9 => ∃ (aO9 aW9 aN9 aC9 : Nat → Int32), lkI n n P aO9 aW9 aN9 ∧ lcI n n aO9 P aC9 ∧ v = none ∧ w9 = PlW op xO xW xN xC xA xM xG xT xH xR xF xB xX ob oc cI cZ (nI n) aO9 aW9 aN9 aC9 aA kS aM aG aT aH aR aF kF aB kT aX (nI n) f) H locs (F0 m 10 ls []) from
    loop10 (n + 1) 0 aO aW aN H locs ls (by omega) (by omega) (by exact fun j hj => absurd hj (by omega)) hP hD hS (lv_sub hl [1, 2, 0] rfl)
  intro k10
  induction k10 with
  | zero => intro i aO1 aW1 aN1 H locs ls h1 h2; exact absurd h2 (by omega)
  | succ k10 ih10 =>
    intro i aO1 aW1 aN1 H locs ls hle10 hlt10 inv10 hP hD hS hl
    refine lv_iload_n hx hb dX2_look_10 rfl (lv_at hl 2 rfl) ?_
    refine lv_aload_n hx hb dX2_look_11 rfl (lv_at hl 0 rfl) ?_
    refine va_get (D := D) (ci := 2) (v := .int (nI n)) (C := RX2) (T := TX2) (N := 17) hx hb hts hinX2 hown hK hP 0 rfl rfl 0 (by decide) hw9 (fun _ h9 => h9) rfl dX2_look_12 ?_
    refine rd_icmp_ge_n (a := i) (b := n) (tgt := 65) (by omega) (by omega) hx hb dX2_look_15 (by decide) (fun c_15 => ?_) (fun c_15 => ?_)
    · have c_15n := Nat.not_lt.mpr c_15
      refine lv_iconst (v := 0) hx hb dX2_look_65 (by decide) ?_
      refine lv_istore_n (lv' := [(2, .int 0), (0, .ref op), (1, .ref ob)]) hx hb dX2_look_66 rfl hl (by decide) rfl (fun ls hl => ?_)
      suffices loop67 : ∀ (k67 i : Nat) (aC1 : Nat → Int32) (H : Heap) (locs : List Loc) (ls : Array Slot), i ≤ n → n + 1 ≤ i + k67 → (lcI i n aO1 P aC1) → va_P D vwCl (PlW op xO xW xN xC xA xM xG xT xH xR xF xB xX ob oc cI cZ (nI n) aO1 aW1 aN1 aC1 aA kS aM aG aT aH aR aF kF aB kT aX (nI n) f) H → va_D (wr_in (PlW op xO xW xN xC xA xM xG xT xH xR xF xB xX ob oc cI cZ kn0 aO aW aN aC aA kS aM aG aT aH aR aF kF aB kT aX (nI n) f)) (PlW op xO xW xN xC xA xM xG xT xH xR xF xB xX ob oc cI cZ (nI n) aO1 aW1 aN1 aC1 aA kS aM aG aT aH aR aF kF aB kT aX (nI n) f) → va_S (wr_in (PlW op xO xW xN xC xA xM xG xT xH xR xF xB xX ob oc cI cZ kn0 aO aW aN aC aA kS aM aG aT aH aR aF kF aB kT aX (nI n) f)) s.heap H locs → lv_has ls 4 [(0, .ref op), (1, .ref ob), (2, .int (nI i))] → wr_W p l e wsX2_look ({ frames := 4, cells := 0, slots := 0, locals := 98 } : Room) s m [.ref op, .ref ob] below meth c D (PlW op xO xW xN xC xA xM xG xT xH xR xF xB xX ob oc cI cZ kn0 aO aW aN aC aA kS aM aG aT aH aR aF kF aB kT aX (nI n) f) (fun v w9 => ∃ (aO9 aW9 aN9 aC9 : Nat → Int32), lkI n n P aO9 aW9 aN9 ∧ lcI n n aO9 P aC9 ∧ v = none ∧ w9 = PlW op xO xW xN xC xA xM xG xT xH xR xF xB xX ob oc cI cZ (nI n) aO9 aW9 aN9 aC9 aA kS aM aG aT aH aR aF kF aB kT aX (nI n) f) H locs (F0 m 67 ls []) from
        loop67 (n + 1) 0 aC H locs ls (by omega) (by omega) (by exact fun j hj => absurd hj (by omega)) hP hD hS (lv_sub hl [1, 2, 0] rfl)
      intro k67
      induction k67 with
      | zero => intro i aC1 H locs ls h1 h2; exact absurd h2 (by omega)
      | succ k67 ih67 =>
        intro i aC1 H locs ls hle67 hlt67 inv67 hP hD hS hl
        refine lv_iload_n hx hb dX2_look_67 rfl (lv_at hl 2 rfl) ?_
        refine lv_aload_n hx hb dX2_look_68 rfl (lv_at hl 0 rfl) ?_
        refine va_get (D := D) (ci := 2) (v := .int (nI n)) (C := RX2) (T := TX2) (N := 17) hx hb hts hinX2 hown hK hP 0 rfl rfl 0 (by decide) hw9 (fun _ h9 => h9) rfl dX2_look_69 ?_
        refine rd_icmp_ge_n (a := i) (b := n) (tgt := 111) (by omega) (by omega) hx hb dX2_look_72 (by decide) (fun c_72 => ?_) (fun c_72 => ?_)
        · have c_72n := Nat.not_lt.mpr c_72
          exact wr_vret hx hb hr hlocks hP hS rfl dX2_look_111 (by exact ⟨_, _, _, _, (fun j hj => inv10 j (by omega)), (fun j hj => inv67 j (by omega)), rfl, rfl⟩)
        · have c_72n := Nat.not_le.mpr c_72
          refine lv_iconst (v := 0) hx hb dX2_look_75 (by decide) ?_
          refine lv_istore_n (lv' := [(3, .int 0), (0, .ref op), (1, .ref ob), (2, .int (nI i))]) hx hb dX2_look_76 rfl hl (by decide) rfl (fun ls hl => ?_)
          suffices loop77 : ∀ (k77 k : Nat) (aC2 : Nat → Int32) (H : Heap) (locs : List Loc) (ls : Array Slot), k ≤ 4 → 4 + 1 ≤ k + k77 → (lcG n aO1 P i k aC1 aC2) → va_P D vwCl (PlW op xO xW xN xC xA xM xG xT xH xR xF xB xX ob oc cI cZ (nI n) aO1 aW1 aN1 aC2 aA kS aM aG aT aH aR aF kF aB kT aX (nI n) f) H → va_D (wr_in (PlW op xO xW xN xC xA xM xG xT xH xR xF xB xX ob oc cI cZ kn0 aO aW aN aC aA kS aM aG aT aH aR aF kF aB kT aX (nI n) f)) (PlW op xO xW xN xC xA xM xG xT xH xR xF xB xX ob oc cI cZ (nI n) aO1 aW1 aN1 aC2 aA kS aM aG aT aH aR aF kF aB kT aX (nI n) f) → va_S (wr_in (PlW op xO xW xN xC xA xM xG xT xH xR xF xB xX ob oc cI cZ kn0 aO aW aN aC aA kS aM aG aT aH aR aF kF aB kT aX (nI n) f)) s.heap H locs → lv_has ls 4 [(0, .ref op), (1, .ref ob), (2, .int (nI i)), (3, .int (nI k))] → wr_W p l e wsX2_look ({ frames := 4, cells := 0, slots := 0, locals := 98 } : Room) s m [.ref op, .ref ob] below meth c D (PlW op xO xW xN xC xA xM xG xT xH xR xF xB xX ob oc cI cZ kn0 aO aW aN aC aA kS aM aG aT aH aR aF kF aB kT aX (nI n) f) (fun v w9 => ∃ (aO9 aW9 aN9 aC9 : Nat → Int32), lkI n n P aO9 aW9 aN9 ∧ lcI n n aO9 P aC9 ∧ v = none ∧ w9 = PlW op xO xW xN xC xA xM xG xT xH xR xF xB xX ob oc cI cZ (nI n) aO9 aW9 aN9 aC9 aA kS aM aG aT aH aR aF kF aB kT aX (nI n) f) H locs (F0 m 77 ls []) from
            loop77 (4 + 1) 0 aC1 H locs ls (by omega) (by omega) (by exact lcG_init) hP hD hS (lv_sub hl [1, 2, 3, 0] rfl)
          intro k77
          induction k77 with
          | zero => intro k aC2 H locs ls h1 h2; exact absurd h2 (by omega)
          | succ k77 ih77 =>
            intro k aC2 H locs ls hle77 hlt77 inv77 hP hD hS hl
            refine lv_iload_n hx hb dX2_look_77 rfl (lv_at hl 3 rfl) ?_
            refine lv_iconst (v := 4) hx hb dX2_look_78 (by decide) ?_
            refine rd_icmp_ge_n (a := k) (b := 4) (tgt := 105) (by omega) (by omega) hx hb dX2_look_79 (by decide) (fun c_79 => ?_) (fun c_79 => ?_)
            · have c_79n := Nat.not_lt.mpr c_79
              refine lv_iinc (v := nI (i + 1)) (lv' := [(2, .int (nI (i + 1))), (0, .ref op), (1, .ref ob), (3, .int (nI k))]) hx hb dX2_look_105 hl (k := 2) rfl (nI_add i 1) (by decide) rfl (fun ls hl => ?_)
              refine lv_goto (tgt := 67) hx hb dX2_look_108 (by decide) ?_
              exact ih67 (i + 1) aC2 H locs ls (by omega) (by omega) (by exact lcI_step inv67 inv77 (by omega)) hP hD hS (lv_sub hl [1, 2, 0] rfl)
            · have c_79n := Nat.not_le.mpr c_79
              refine lv_aload_n hx hb dX2_look_82 rfl (lv_at hl 0 rfl) ?_
              refine va_get (D := D) (ci := 2) (v := .ref xC) (C := RX2) (T := TX2) (N := 17) hx hb hts hinX2 hown hK hP 0 rfl rfl 4 (by decide) hw25 (fun _ h9 => h9) rfl dX2_look_83 ?_
              refine lv_iload_n hx hb dX2_look_86 rfl (lv_at hl 2 rfl) ?_
              refine lv_iconst (v := 4) hx hb dX2_look_87 (by decide) ?_
              refine lv_imul hx hb dX2_look_88 ?_
              refine lv_asi (y := nI (i * 4)) (pk_mul i 4) ?_
              refine lv_iload_n hx hb dX2_look_89 rfl (lv_at hl 3 rfl) ?_
              refine lv_iadd hx hb dX2_look_90 ?_
              refine lv_asi (y := nI ((i * 4) + k)) (nI_add (i * 4) k) ?_
              refine lv_aload_n hx hb dX2_look_91 rfl (lv_at hl 0 rfl) ?_
              refine lv_aload_n hx hb dX2_look_92 rfl (lv_at hl 1 rfl) ?_
              refine lv_iload_n hx hb dX2_look_93 rfl (lv_at hl 2 rfl) ?_
              refine lv_iload_n hx hb dX2_look_94 rfl (lv_at hl 3 rfl) ?_
              refine wr_callV (As := [.ref ob, .int (nI i), .int (nI k)]) (rest := [.int (nI ((i * 4) + k)), .ref xC]) ⟨hx, hb, hml, hown, hts⟩ (c_X2_laterClashes l D hn8 hf (i := i) c_72 (q := k) c_79) (cwV 3 hts gX2_look_X2_laterClashes rfl rfl rfl (by decide +kernel) ⟨by decide, by decide⟩) hK hN hZ hP hD hS [0, 1, 2, 3, 4, 5, 6, 7, 8, 9, 10, 11, 12, 13, 14, 15] [0, 1] rfl (by decide) rfl (q0 := 0) rfl rfl rfl hl.1 rfl (Nat.le_of_ble_eq_true rfl) ⟨by decide, by decide⟩ dX2_look_95 (fun v9 w9 H locs hp9 hP hD hS => ?_)
              obtain ⟨rfl, rfl⟩ := hp9
              have hP : va_P D vwCl (PlW op xO xW xN xC xA xM xG xT xH xR xF xB xX ob oc cI cZ (nI n) aO1 aW1 aN1 aC2 aA kS aM aG aT aH aR aF kF aB kT aX (nI n) f) H := hP
              have hD : va_D (wr_in (PlW op xO xW xN xC xA xM xG xT xH xR xF xB xX ob oc cI cZ kn0 aO aW aN aC aA kS aM aG aT aH aR aF kF aB kT aX (nI n) f)) (PlW op xO xW xN xC xA xM xG xT xH xR xF xB xX ob oc cI cZ (nI n) aO1 aW1 aN1 aC2 aA kS aM aG aT aH aR aF kF aB kT aX (nI n) f) := hD
              refine W.eq (g2 := F0 m 98 ls [.int (gLc n aO1 P i (nI k)), .int (nI ((i * 4) + k)), .ref xC]) rfl ?_
              refine wr_ast (q0 := 4) (t0 := 0) (j := (i * 4) + k) hx hb hK hP hD hS rfl rfl (rfl) (by omega) (by decide) dX2_look_98 (fun H locs hP hD hS => ?_)
              obtain ⟨aC_98, eaC_98⟩ : ∃ zz9 : Nat → Int32, zz9 = upd aC2 ((i * 4) + k) (gLc n aO1 P i (nI k)) := ⟨_, rfl⟩
              rw [← eaC_98] at hP hD
              have hP : va_P D vwCl (PlW op xO xW xN xC xA xM xG xT xH xR xF xB xX ob oc cI cZ (nI n) aO1 aW1 aN1 aC_98 aA kS aM aG aT aH aR aF kF aB kT aX (nI n) f) H := hP
              have hD : va_D (wr_in (PlW op xO xW xN xC xA xM xG xT xH xR xF xB xX ob oc cI cZ kn0 aO aW aN aC aA kS aM aG aT aH aR aF kF aB kT aX (nI n) f)) (PlW op xO xW xN xC xA xM xG xT xH xR xF xB xX ob oc cI cZ (nI n) aO1 aW1 aN1 aC_98 aA kS aM aG aT aH aR aF kF aB kT aX (nI n) f) := hD
              refine lv_iinc (v := nI (k + 1)) (lv' := [(3, .int (nI (k + 1))), (0, .ref op), (1, .ref ob), (2, .int (nI i))]) hx hb dX2_look_99 hl (k := 3) rfl (nI_add k 1) (by decide) rfl (fun ls hl => ?_)
              refine lv_goto (tgt := 77) hx hb dX2_look_102 (by decide) ?_
              exact ih77 (k + 1) aC_98 H locs ls (by omega) (by omega) (by exact lcG_step c_79 inv77 eaC_98) hP hD hS (lv_sub hl [1, 2, 3, 0] rfl)
    · have c_15n := Nat.not_le.mpr c_15
      refine lv_aload_n hx hb dX2_look_18 rfl (lv_at hl 0 rfl) ?_
      refine va_get (D := D) (ci := 2) (v := .ref xO) (C := RX2) (T := TX2) (N := 17) hx hb hts hinX2 hown hK hP 0 rfl rfl 1 (by decide) hw15 (fun _ h9 => h9) rfl dX2_look_19 ?_
      refine lv_iload_n hx hb dX2_look_22 rfl (lv_at hl 2 rfl) ?_
      have hbd : bd_in (PlW op xO xW xN xC xA xM xG xT xH xR xF xB xX ob oc cI cZ (nI n) aO1 aW1 aN1 aC aA kS aM aG aT aH aR aF kF aB kT aX (nI n) f) [(cI, .int), (cZ, .boolean)] ob n P := ⟨14, 15, 0, oc, cI, f, rfl, rfl, rfl, hn8, hf⟩
      refine lv_aload_n hx hb dX2_look_23 rfl (lv_at hl 1 rfl) ?_
      refine lv_iload_n hx hb dX2_look_24 rfl (lv_at hl 2 rfl) ?_
      refine rd_callV (As := [.int (nI i)]) (rest := [.int (nI i), .ref xO]) ⟨hx, hb, hml, hown, hts⟩ (c_X0_openMask l D hbd c_15) (cwV 1 hts gX2_look_X0_openMask rfl rfl rfl (by decide +kernel) ⟨by decide, by decide⟩) hK hN hP (q0 := 14) rfl rfl rfl hl.1 rfl (Nat.le_of_ble_eq_true rfl) ⟨by decide, by decide⟩ dX2_look_25 ?_
      refine wr_ast (q0 := 1) (t0 := 0) (j := i) hx hb hK hP hD hS rfl rfl (rfl) (by omega) (by decide) dX2_look_28 (fun H locs hP hD hS => ?_)
      obtain ⟨aO_28, eaO_28⟩ : ∃ zz9 : Nat → Int32, zz9 = upd aO1 i (gMk n P i) := ⟨_, rfl⟩
      rw [← eaO_28] at hP hD
      have hP : va_P D vwCl (PlW op xO xW xN xC xA xM xG xT xH xR xF xB xX ob oc cI cZ (nI n) aO_28 aW1 aN1 aC aA kS aM aG aT aH aR aF kF aB kT aX (nI n) f) H := hP
      have hD : va_D (wr_in (PlW op xO xW xN xC xA xM xG xT xH xR xF xB xX ob oc cI cZ kn0 aO aW aN aC aA kS aM aG aT aH aR aF kF aB kT aX (nI n) f)) (PlW op xO xW xN xC xA xM xG xT xH xR xF xB xX ob oc cI cZ (nI n) aO_28 aW1 aN1 aC aA kS aM aG aT aH aR aF kF aB kT aX (nI n) f) := hD
      refine lv_aload_n hx hb dX2_look_29 rfl (lv_at hl 0 rfl) ?_
      refine va_get (D := D) (ci := 2) (v := .ref xW) (C := RX2) (T := TX2) (N := 17) hx hb hts hinX2 hown hK hP 0 rfl rfl 2 (by decide) hw19 (fun _ h9 => h9) rfl dX2_look_30 ?_
      refine lv_iload_n hx hb dX2_look_33 rfl (lv_at hl 2 rfl) ?_
      refine lv_aload_n hx hb dX2_look_34 rfl (lv_at hl 1 rfl) ?_
      refine va_get (D := D) (ci := 0) (v := .ref oc) (C := RX0) (T := TX0) (N := 2) hx hb hts hinX0 hown hK hP 14 rfl rfl 0 (by decide) hw72 (fun _ h9 => h9) rfl dX2_look_35 ?_
      refine lv_bipush (v := 32) hx hb dX2_look_38 (by decide) ?_
      refine lv_iload_n hx hb dX2_look_40 rfl (lv_at hl 2 rfl) ?_
      refine lv_iadd hx hb dX2_look_41 ?_
      refine lv_asi (y := nI (32 + i)) (nI_add 32 i) ?_
      refine rd_ald (q0 := 15) (t0 := 0) (j := 32 + i) (v := P i 4) hx hb hK hP rfl rfl (rfl) (by omega) (by decide) (by rw [show 32 + i = 8 * 4 + i by omega]; exact hf i c_15 4 (by decide)) dX2_look_42 ?_
      refine wr_ast (q0 := 2) (t0 := 0) (j := i) hx hb hK hP hD hS rfl rfl (rfl) (by omega) (by decide) dX2_look_43 (fun H locs hP hD hS => ?_)
      obtain ⟨aW_43, eaW_43⟩ : ∃ zz9 : Nat → Int32, zz9 = upd aW1 i (P i 4) := ⟨_, rfl⟩
      rw [← eaW_43] at hP hD
      have hP : va_P D vwCl (PlW op xO xW xN xC xA xM xG xT xH xR xF xB xX ob oc cI cZ (nI n) aO_28 aW_43 aN1 aC aA kS aM aG aT aH aR aF kF aB kT aX (nI n) f) H := hP
      have hD : va_D (wr_in (PlW op xO xW xN xC xA xM xG xT xH xR xF xB xX ob oc cI cZ kn0 aO aW aN aC aA kS aM aG aT aH aR aF kF aB kT aX (nI n) f)) (PlW op xO xW xN xC xA xM xG xT xH xR xF xB xX ob oc cI cZ (nI n) aO_28 aW_43 aN1 aC aA kS aM aG aT aH aR aF kF aB kT aX (nI n) f) := hD
      refine lv_aload_n hx hb dX2_look_44 rfl (lv_at hl 0 rfl) ?_
      refine va_get (D := D) (ci := 2) (v := .ref xN) (C := RX2) (T := TX2) (N := 17) hx hb hts hinX2 hown hK hP 0 rfl rfl 3 (by decide) hw22 (fun _ h9 => h9) rfl dX2_look_45 ?_
      refine lv_iload_n hx hb dX2_look_48 rfl (lv_at hl 2 rfl) ?_
      refine lv_aload_n hx hb dX2_look_49 rfl (lv_at hl 1 rfl) ?_
      refine va_get (D := D) (ci := 0) (v := .ref oc) (C := RX0) (T := TX0) (N := 2) hx hb hts hinX0 hown hK hP 14 rfl rfl 0 (by decide) hw72 (fun _ h9 => h9) rfl dX2_look_50 ?_
      refine lv_bipush (v := 40) hx hb dX2_look_53 (by decide) ?_
      refine lv_iload_n hx hb dX2_look_55 rfl (lv_at hl 2 rfl) ?_
      refine lv_iadd hx hb dX2_look_56 ?_
      refine lv_asi (y := nI (40 + i)) (nI_add 40 i) ?_
      refine rd_ald (q0 := 15) (t0 := 0) (j := 40 + i) (v := P i 5) hx hb hK hP rfl rfl (rfl) (by omega) (by decide) (by rw [show 40 + i = 8 * 5 + i by omega]; exact hf i c_15 5 (by decide)) dX2_look_57 ?_
      refine wr_ast (q0 := 3) (t0 := 0) (j := i) hx hb hK hP hD hS rfl rfl (rfl) (by omega) (by decide) dX2_look_58 (fun H locs hP hD hS => ?_)
      obtain ⟨aN_58, eaN_58⟩ : ∃ zz9 : Nat → Int32, zz9 = upd aN1 i (P i 5) := ⟨_, rfl⟩
      rw [← eaN_58] at hP hD
      have hP : va_P D vwCl (PlW op xO xW xN xC xA xM xG xT xH xR xF xB xX ob oc cI cZ (nI n) aO_28 aW_43 aN_58 aC aA kS aM aG aT aH aR aF kF aB kT aX (nI n) f) H := hP
      have hD : va_D (wr_in (PlW op xO xW xN xC xA xM xG xT xH xR xF xB xX ob oc cI cZ kn0 aO aW aN aC aA kS aM aG aT aH aR aF kF aB kT aX (nI n) f)) (PlW op xO xW xN xC xA xM xG xT xH xR xF xB xX ob oc cI cZ (nI n) aO_28 aW_43 aN_58 aC aA kS aM aG aT aH aR aF kF aB kT aX (nI n) f) := hD
      refine lv_iinc (v := nI (i + 1)) (lv' := [(2, .int (nI (i + 1))), (0, .ref op), (1, .ref ob)]) hx hb dX2_look_59 hl (k := 2) rfl (nI_add i 1) (by decide) rfl (fun ls hl => ?_)
      refine lv_goto (tgt := 10) hx hb dX2_look_62 (by decide) ?_
      exact ih10 (i + 1) aO_28 aW_43 aN_58 H locs ls (by omega) (by omega) (by exact lkI_step inv10 eaO_28 eaW_43 eaN_58) hP hD hS (lv_sub hl [1, 2, 0] rfl)
