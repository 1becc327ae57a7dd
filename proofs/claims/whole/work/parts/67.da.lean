set_option maxHeartbeats 4000000 in
set_option maxRecDepth 100000 in
theorem c_X4_point (l : Launch) (hfl : l.stackTraces = false) (D : va_G) {ox op xO xW xN xC xA xM xG xT xH xR xF xB xX ob oc oh hc hp ot yc yt : Nat} {cI : ClassId} {cZ : ClassId} {n q b : Nat} {P : Nat → Nat → Int32} {kn kS kF kT rg pa vl : Int32} {aO aW aN aC aA aM aG aT aH aR aF aB aX f zf zn co td : Nat → Int32} {hs : Nat → BS} (hA : aOK ((n, P), (q, hs), (b, co))) (hf : clB n P f) (hh : clH q hs zf zn) (x y : Int32) : wx_M l yX4_point wsX4_point ({ frames := 6, cells := 1, slots := 6, locals := 140 } : Room) D (ClW ox op xO xW xN xC xA xM xG xT xH xR xF xB xX ob oc oh hc hp ot yc yt cI cZ kn aO aW aN aC aA kS aM aG aT aH aR aF kF aB kT aX (nI n) f (nI q) zf zn co (nI b) td rg pa vl) [(cI, .int), (cZ, .boolean)] [.ref ox, .int x, .int y] (fun v w9 => ∃ (r9 : Int32) (A9 : AS), v = some (.int r9) ∧ spPoint ((n, P), (q, hs), (b, co)) x y = (0, r9, A9) ∧ ClP ox op xO xW xN xC xA xM xG xT xH xR xF xB xX ob oc oh hc hp ot yc yt cI cZ A9 w9) (fun E w9 => ((E = "java/lang/IndexOutOfBoundsException" ∧ spPoint ((n, P), (q, hs), (b, co)) x y = (1, 0, ((n, P), (q, hs), (b, co)))) ∨ (E = "java/lang/IllegalArgumentException" ∧ spPoint ((n, P), (q, hs), (b, co)) x y = (2, 0, ((n, P), (q, hs), (b, co))))) ∧ ClP ox op xO xW xN xC xA xM xG xT xH xR xF xB xX ob oc oh hc hp ot yc yt cI cZ ((n, P), (q, hs), (b, co)) w9) := by
  have hn8 : n ≤ 8 := hA.1.1
  have hbk : bd_ok n P := hA.1.2.1
  have hgd : bd_gd n P := hA.1.2.2
  have hq6 : q ≤ 6 := hA.2.1
  have hhs : ∀ j, j < q → (hs j).1 ≤ 8 := fun j hj => (hA.2.2.1 j hj).1
  have hb60 : b ≤ 60 := hA.2.2.2
  refine wx_of (cc := cX4_point) (maxL := 3) (ret := some .int) (by decide) rfl (Nat.le_of_ble_eq_true rfl) ?_
  intro p e s m below meth c hx hb hr hml hts hown hlocks htab hP hK hN hZ hT hD hS ls hl
  have hown : s.vm.findClass RX4 = some m.cls := hown
  have hl : lv_has ls 3 [(0, .ref ox), (1, .int x), (2, .int y)] := hl
  have hinX4 : ∀ w ∈ u_ws RX4 TX4 4, w ∈ wsX4_point := by decide +kernel
  have hw10 := hts (.fieldLink RX4 10 "CornerLabels" "board" "LCornerLabels$Board;") (by decide +kernel)
  suffices body : ∀ (H : Heap) (locs : List Loc), va_P D vwCl (ClW ox op xO xW xN xC xA xM xG xT xH xR xF xB xX ob oc oh hc hp ot yc yt cI cZ kn aO aW aN aC aA kS aM aG aT aH aR aF kF aB kT aX (nI n) f (nI q) zf zn co (nI b) td rg pa vl) H → va_D (wr_in (ClW ox op xO xW xN xC xA xM xG xT xH xR xF xB xX ob oc oh hc hp ot yc yt cI cZ kn aO aW aN aC aA kS aM aG aT aH aR aF kF aB kT aX (nI n) f (nI q) zf zn co (nI b) td rg pa vl)) (ClW ox op xO xW xN xC xA xM xG xT xH xR xF xB xX ob oc oh hc hp ot yc yt cI cZ kn aO aW aN aC aA kS aM aG aT aH aR aF kF aB kT aX (nI n) f (nI q) zf zn co (nI b) td rg pa vl) → va_S (wr_in (ClW ox op xO xW xN xC xA xM xG xT xH xR xF xB xX ob oc oh hc hp ot yc yt cI cZ kn aO aW aN aC aA kS aM aG aT aH aR aF kF aB kT aX (nI n) f (nI q) zf zn co (nI b) td rg pa vl)) s.heap H locs → wx_W p l e wsX4_point ({ frames := 6, cells := 1, slots := 6, locals := 140 } : Room) s m [.ref ox, .int x, .int y] below meth c D (ClW ox op xO xW xN xC xA xM xG xT xH xR xF xB xX ob oc oh hc hp ot yc yt cI cZ kn aO aW aN aC aA kS aM aG aT aH aR aF kF aB kT aX (nI n) f (nI q) zf zn co (nI b) td rg pa vl) (fun v w9 => ∃ (r9 : Int32) (A9 : AS), v = some (.int r9) ∧ spPoint ((n, P), (q, hs), (b, co)) x y = (0, r9, A9) ∧ ClP ox op xO xW xN xC xA xM xG xT xH xR xF xB xX ob oc oh hc hp ot yc yt cI cZ A9 w9) (fun E w9 => ((E = "java/lang/IndexOutOfBoundsException" ∧ spPoint ((n, P), (q, hs), (b, co)) x y = (1, 0, ((n, P), (q, hs), (b, co)))) ∨ (E = "java/lang/IllegalArgumentException" ∧ spPoint ((n, P), (q, hs), (b, co)) x y = (2, 0, ((n, P), (q, hs), (b, co))))) ∧ ClP ox op xO xW xN xC xA xM xG xT xH xR xF xB xX ob oc oh hc hp ot yc yt cI cZ ((n, P), (q, hs), (b, co)) w9) H locs (F0 m 0 ls []) from body _ _ hP hD hS
  clear hP hD hS
  intro H locs hP hD hS
  refine lv_aload_n hx hb dX4_point_0 rfl (lv_at hl 0 rfl) ?_
  refine va_get (D := D) (ci := 4) (v := .ref ob) (C := RX4) (T := TX4) (N := 4) hx hb hts hinX4 hown hK hP 0 rfl rfl 0 (by decide) hw10 (fun _ h9 => h9) rfl dX4_point_1 ?_
  refine lv_iload_n hx hb dX4_point_4 rfl (lv_at hl 1 rfl) ?_
  have hbd : bd_in (ClW ox op xO xW xN xC xA xM xG xT xH xR xF xB xX ob oc oh hc hp ot yc yt cI cZ kn aO aW aN aC aA kS aM aG aT aH aR aF kF aB kT aX (nI n) f (nI q) zf zn co (nI b) td rg pa vl) [(cI, .int), (cZ, .boolean)] ob n P := ⟨15, 16, 0, oc, cI, f, rfl, rfl, rfl, hn8, hf⟩
  refine rd_callV (As := [.int x]) (rest := []) ⟨hx, hb, hml, hown, hts⟩ (c_X0_has l D hbd x) (cwV 1 hts gX4_point_X0_has rfl rfl rfl (by decide +kernel) ⟨by decide, by decide⟩) hK hN hP (q0 := 15) rfl rfl rfl hl.1 rfl (Nat.le_of_ble_eq_true rfl) ⟨by decide, by decide⟩ dX4_point_5 ?_
  refine rd_ifne_b (tgt := 21) hx hb dX4_point_8 (by decide) (fun c_8 => ?_) (fun c_8 => ?_)
  · obtain ⟨i, hi, ei⟩ := (gHas_iff hn8).mp c_8
    rw [ei] at hl
    have hl : lv_has ls 3 [(0, .ref ox), (1, .int (nI i)), (2, .int y)] := hl
    refine lv_iload_n hx hb dX4_point_21 rfl (lv_at hl 2 rfl) ?_
    refine lv_if_lt (tgt := 31) hx hb dX4_point_22 (by decide) (fun c_22 => ?_) (fun c_22 => ?_)
    · have c_22n := Int32.not_le.mpr c_22
      exact wx_throw (cls := "java/lang/IllegalArgumentException") (text := "what is not 0 to 8") (ik := 48) (is := 172) (ic := 52) hx hb hfl hown hlocks htab (hl.1.trans hml.symm) hT hP hS rfl (⟨Or.inr (⟨rfl, by unfold spPoint; dsimp only; rw [if_pos c_8, if_neg (bF (mIn_lo c_22))]⟩), _, _, _, _, _, _, _, _, _, _, _, _, _, _, _, _, _, _, _, _, _, _, _, _, hf, hh, rfl⟩) (by decide +kernel) (hts (.classLink RX4 48 "java/lang/IllegalArgumentException") (by decide +kernel)) (hts (.initialized "java/lang/IllegalArgumentException") (by decide +kernel)) (by decide) (fun w hw => hts w (List.mem_cons_of_mem _ (List.mem_append_right _ hw))) (by decide +kernel) hT.2.2.1.1 (by decide +kernel) dX4_point_31 dX4_point_34 dX4_point_35 dX4_point_37 dX4_point_40 (by decide) (by decide) (by decide) (by decide)
    · have c_22n := Int32.not_lt.mp c_22
      refine lv_iload_n hx hb dX4_point_25 rfl (lv_at hl 2 rfl) ?_
      refine lv_bipush (v := 8) hx hb dX4_point_26 (by decide) ?_
      refine lv_icmp_le (tgt := 41) hx hb dX4_point_28 (by decide) (fun c_28 => ?_) (fun c_28 => ?_)
      · have c_28n := Int32.not_lt.mpr c_28
        obtain ⟨k, hk, ek⟩ := mIn_nat (m := 8) (mIn_t c_22n c_28) (by decide)
        rw [ek] at hl
        have hl : lv_has ls 3 [(0, .ref ox), (1, .int (nI i)), (2, .int (nI k))] := hl
        refine lv_aload_n hx hb dX4_point_41 rfl (lv_at hl 0 rfl) ?_
        refine lv_iload_n hx hb dX4_point_42 rfl (lv_at hl 1 rfl) ?_
        refine lv_iload_n hx hb dX4_point_43 rfl (lv_at hl 2 rfl) ?_
        refine wr_callVF (As := [.int (nI i), .int (nI k)]) (rest := []) ⟨hx, hb, hml, hown, hts⟩ (c_X4_property (i := i) (k := k) l D hn8 hf hi (by omega)) (cwV 2 hts gX4_point_X4_property rfl rfl rfl (by decide +kernel) ⟨by decide, by decide⟩) hK hN hZ hP hD hS (q0 := 0) rfl rfl rfl hl.1 rfl (Nat.le_of_ble_eq_true rfl) ⟨by decide, by decide⟩ dX4_point_44 (fun v9 w9 H locs hp9 hP hD hS => ?_)
        obtain ⟨rfl, rfl⟩ := hp9
        have hP : va_P D vwCl (ClW ox op xO xW xN xC xA xM xG xT xH xR xF xB xX ob oc oh hc hp ot yc yt cI cZ kn aO aW aN aC aA kS aM aG aT aH aR aF kF aB kT aX (nI n) f (nI q) zf zn co (nI b) td rg pa vl) H := hP
        have hD : va_D (wr_in (ClW ox op xO xW xN xC xA xM xG xT xH xR xF xB xX ob oc oh hc hp ot yc yt cI cZ kn aO aW aN aC aA kS aM aG aT aH aR aF kF aB kT aX (nI n) f (nI q) zf zn co (nI b) td rg pa vl)) (ClW ox op xO xW xN xC xA xM xG xT xH xR xF xB xX ob oc oh hc hp ot yc yt cI cZ kn aO aW aN aC aA kS aM aG aT aH aR aF kF aB kT aX (nI n) f (nI q) zf zn co (nI b) td rg pa vl) := hD
        refine W.eq (g2 := F0 m 47 ls [.int (gPr n P i k)]) rfl ?_
        exact wx_iret hx hb hr hlocks hP hS rfl dX4_point_47 (by exact ⟨_, ((n, P), (q, hs), (b, co)), rfl, by unfold spPoint; dsimp only; rw [if_pos c_8, if_pos (mIn_t c_22n c_28), ei, ek, ix_n (i := i) (by omega), ix_n (i := k) (by omega)], _, _, _, _, _, _, _, _, _, _, _, _, _, _, _, _, _, _, _, _, _, _, _, _, hf, hh, rfl⟩)
      · have c_28n := Int32.not_le.mp c_28
        exact wx_throw (cls := "java/lang/IllegalArgumentException") (text := "what is not 0 to 8") (ik := 48) (is := 172) (ic := 52) hx hb hfl hown hlocks htab (hl.1.trans hml.symm) hT hP hS rfl (⟨Or.inr (⟨rfl, by unfold spPoint; dsimp only; rw [if_pos c_8, if_neg (bF (mIn_hi c_28n))]⟩), _, _, _, _, _, _, _, _, _, _, _, _, _, _, _, _, _, _, _, _, _, _, _, _, hf, hh, rfl⟩) (by decide +kernel) (hts (.classLink RX4 48 "java/lang/IllegalArgumentException") (by decide +kernel)) (hts (.initialized "java/lang/IllegalArgumentException") (by decide +kernel)) (by decide) (fun w hw => hts w (List.mem_cons_of_mem _ (List.mem_append_right _ hw))) (by decide +kernel) hT.2.2.1.1 (by decide +kernel) dX4_point_31 dX4_point_34 dX4_point_35 dX4_point_37 dX4_point_40 (by decide) (by decide) (by decide) (by decide)
  · exact wx_throw (cls := "java/lang/IndexOutOfBoundsException") (text := "no such point") (ik := 74) (is := 76) (ic := 78) hx hb hfl hown hlocks htab (hl.1.trans hml.symm) hT hP hS rfl (⟨Or.inl ⟨rfl, by unfold spPoint; dsimp only; rw [if_neg (bF c_8)]⟩, _, _, _, _, _, _, _, _, _, _, _, _, _, _, _, _, _, _, _, _, _, _, _, _, hf, hh, rfl⟩) (by decide +kernel) (hts (.classLink RX4 74 "java/lang/IndexOutOfBoundsException") (by decide +kernel)) (hts (.initialized "java/lang/IndexOutOfBoundsException") (by decide +kernel)) (by decide) (fun w hw => hts w (List.mem_cons_of_mem _ (List.mem_append_left _ (List.mem_append_right _ hw)))) (by decide +kernel) hT.2.2.1.2.2.1 (by decide +kernel) dX4_point_11 dX4_point_14 dX4_point_15 dX4_point_17 dX4_point_20 (by decide) (by decide) (by decide) (by decide)
set_option maxHeartbeats 4000000 in
set_option maxRecDepth 100000 in
theorem c_X4_clash (l : Launch) (hfl : l.stackTraces = false) (D : va_G) {ox op xO xW xN xC xA xM xG xT xH xR xF xB xX ob oc oh hc hp ot yc yt : Nat} {cI : ClassId} {cZ : ClassId} {n q b : Nat} {P : Nat → Nat → Int32} {kn kS kF kT rg pa vl : Int32} {aO aW aN aC aA aM aG aT aH aR aF aB aX f zf zn co td : Nat → Int32} {hs : Nat → BS} (hA : aOK ((n, P), (q, hs), (b, co))) (hf : clB n P f) (hh : clH q hs zf zn) (x y u z : Int32) : wx_M l yX4_clash wsX4_clash ({ frames := 6, cells := 1, slots := 6, locals := 82 } : Room) D (ClW ox op xO xW xN xC xA xM xG xT xH xR xF xB xX ob oc oh hc hp ot yc yt cI cZ kn aO aW aN aC aA kS aM aG aT aH aR aF kF aB kT aX (nI n) f (nI q) zf zn co (nI b) td rg pa vl) [(cI, .int), (cZ, .boolean)] [.ref ox, .int x, .int y, .int u, .int z] (fun v w9 => ∃ (r9 : Int32) (A9 : AS), v = some (.int r9) ∧ spClash ((n, P), (q, hs), (b, co)) x y u z = (0, r9, A9) ∧ ClP ox op xO xW xN xC xA xM xG xT xH xR xF xB xX ob oc oh hc hp ot yc yt cI cZ A9 w9) (fun E w9 => ((E = "java/lang/IndexOutOfBoundsException" ∧ spClash ((n, P), (q, hs), (b, co)) x y u z = (1, 0, ((n, P), (q, hs), (b, co)))) ∨ (E = "java/lang/IllegalArgumentException" ∧ spClash ((n, P), (q, hs), (b, co)) x y u z = (2, 0, ((n, P), (q, hs), (b, co))))) ∧ ClP ox op xO xW xN xC xA xM xG xT xH xR xF xB xX ob oc oh hc hp ot yc yt cI cZ ((n, P), (q, hs), (b, co)) w9) := by
  have hn8 : n ≤ 8 := hA.1.1
  have hbk : bd_ok n P := hA.1.2.1
  have hgd : bd_gd n P := hA.1.2.2
  have hq6 : q ≤ 6 := hA.2.1
  have hhs : ∀ j, j < q → (hs j).1 ≤ 8 := fun j hj => (hA.2.2.1 j hj).1
  have hb60 : b ≤ 60 := hA.2.2.2
  refine wx_of (cc := cX4_clash) (maxL := 5) (ret := some .int) (by decide) rfl (Nat.le_of_ble_eq_true rfl) ?_
  intro p e s m below meth c hx hb hr hml hts hown hlocks htab hP hK hN hZ hT hD hS ls hl
  have hown : s.vm.findClass RX4 = some m.cls := hown
  have hl : lv_has ls 5 [(0, .ref ox), (1, .int x), (2, .int y), (3, .int u), (4, .int z)] := hl
  have hinX4 : ∀ w ∈ u_ws RX4 TX4 4, w ∈ wsX4_clash := by decide +kernel
  have hw10 := hts (.fieldLink RX4 10 "CornerLabels" "board" "LCornerLabels$Board;") (by decide +kernel)
  suffices body : ∀ (H : Heap) (locs : List Loc), va_P D vwCl (ClW ox op xO xW xN xC xA xM xG xT xH xR xF xB xX ob oc oh hc hp ot yc yt cI cZ kn aO aW aN aC aA kS aM aG aT aH aR aF kF aB kT aX (nI n) f (nI q) zf zn co (nI b) td rg pa vl) H → va_D (wr_in (ClW ox op xO xW xN xC xA xM xG xT xH xR xF xB xX ob oc oh hc hp ot yc yt cI cZ kn aO aW aN aC aA kS aM aG aT aH aR aF kF aB kT aX (nI n) f (nI q) zf zn co (nI b) td rg pa vl)) (ClW ox op xO xW xN xC xA xM xG xT xH xR xF xB xX ob oc oh hc hp ot yc yt cI cZ kn aO aW aN aC aA kS aM aG aT aH aR aF kF aB kT aX (nI n) f (nI q) zf zn co (nI b) td rg pa vl) → va_S (wr_in (ClW ox op xO xW xN xC xA xM xG xT xH xR xF xB xX ob oc oh hc hp ot yc yt cI cZ kn aO aW aN aC aA kS aM aG aT aH aR aF kF aB kT aX (nI n) f (nI q) zf zn co (nI b) td rg pa vl)) s.heap H locs → wx_W p l e wsX4_clash ({ frames := 6, cells := 1, slots := 6, locals := 82 } : Room) s m [.ref ox, .int x, .int y, .int u, .int z] below meth c D (ClW ox op xO xW xN xC xA xM xG xT xH xR xF xB xX ob oc oh hc hp ot yc yt cI cZ kn aO aW aN aC aA kS aM aG aT aH aR aF kF aB kT aX (nI n) f (nI q) zf zn co (nI b) td rg pa vl) (fun v w9 => ∃ (r9 : Int32) (A9 : AS), v = some (.int r9) ∧ spClash ((n, P), (q, hs), (b, co)) x y u z = (0, r9, A9) ∧ ClP ox op xO xW xN xC xA xM xG xT xH xR xF xB xX ob oc oh hc hp ot yc yt cI cZ A9 w9) (fun E w9 => ((E = "java/lang/IndexOutOfBoundsException" ∧ spClash ((n, P), (q, hs), (b, co)) x y u z = (1, 0, ((n, P), (q, hs), (b, co)))) ∨ (E = "java/lang/IllegalArgumentException" ∧ spClash ((n, P), (q, hs), (b, co)) x y u z = (2, 0, ((n, P), (q, hs), (b, co))))) ∧ ClP ox op xO xW xN xC xA xM xG xT xH xR xF xB xX ob oc oh hc hp ot yc yt cI cZ ((n, P), (q, hs), (b, co)) w9) H locs (F0 m 0 ls []) from body _ _ hP hD hS
  clear hP hD hS
  intro H locs hP hD hS
  refine lv_aload_n hx hb dX4_clash_0 rfl (lv_at hl 0 rfl) ?_
  refine va_get (D := D) (ci := 4) (v := .ref ob) (C := RX4) (T := TX4) (N := 4) hx hb hts hinX4 hown hK hP 0 rfl rfl 0 (by decide) hw10 (fun _ h9 => h9) rfl dX4_clash_1 ?_
  refine lv_iload_n hx hb dX4_clash_4 rfl (lv_at hl 1 rfl) ?_
  have hbd : bd_in (ClW ox op xO xW xN xC xA xM xG xT xH xR xF xB xX ob oc oh hc hp ot yc yt cI cZ kn aO aW aN aC aA kS aM aG aT aH aR aF kF aB kT aX (nI n) f (nI q) zf zn co (nI b) td rg pa vl) [(cI, .int), (cZ, .boolean)] ob n P := ⟨15, 16, 0, oc, cI, f, rfl, rfl, rfl, hn8, hf⟩
  refine rd_callV (As := [.int x]) (rest := []) ⟨hx, hb, hml, hown, hts⟩ (c_X0_has l D hbd x) (cwV 1 hts gX4_clash_X0_has rfl rfl rfl (by decide +kernel) ⟨by decide, by decide⟩) hK hN hP (q0 := 15) rfl rfl rfl hl.1 rfl (Nat.le_of_ble_eq_true rfl) ⟨by decide, by decide⟩ dX4_clash_5 ?_
  refine rd_ifeq_b (tgt := 22) hx hb dX4_clash_8 (by decide) (fun c_8 => ?_) (fun c_8 => ?_)
  · exact wx_throw (cls := "java/lang/IndexOutOfBoundsException") (text := "no such point") (ik := 74) (is := 76) (ic := 78) hx hb hfl hown hlocks htab (hl.1.trans hml.symm) hT hP hS rfl (⟨Or.inl ⟨rfl, by unfold spClash; dsimp only; rw [if_neg (by rw [c_8]; exact Bool.false_ne_true)]⟩, _, _, _, _, _, _, _, _, _, _, _, _, _, _, _, _, _, _, _, _, _, _, _, _, hf, hh, rfl⟩) (by decide +kernel) (hts (.classLink RX4 74 "java/lang/IndexOutOfBoundsException") (by decide +kernel)) (hts (.initialized "java/lang/IndexOutOfBoundsException") (by decide +kernel)) (by decide) (fun w hw => hts w (List.mem_cons_of_mem _ (List.mem_append_left _ (List.mem_append_right _ hw)))) (by decide +kernel) hT.2.2.1.2.2.1 (by decide +kernel) dX4_clash_22 dX4_clash_25 dX4_clash_26 dX4_clash_28 dX4_clash_31 (by decide) (by decide) (by decide) (by decide)
  · refine lv_aload_n hx hb dX4_clash_11 rfl (lv_at hl 0 rfl) ?_
    refine va_get (D := D) (ci := 4) (v := .ref ob) (C := RX4) (T := TX4) (N := 4) hx hb hts hinX4 hown hK hP 0 rfl rfl 0 (by decide) hw10 (fun _ h9 => h9) rfl dX4_clash_12 ?_
    refine lv_iload_n hx hb dX4_clash_15 rfl (lv_at hl 3 rfl) ?_
    have hbd : bd_in (ClW ox op xO xW xN xC xA xM xG xT xH xR xF xB xX ob oc oh hc hp ot yc yt cI cZ kn aO aW aN aC aA kS aM aG aT aH aR aF kF aB kT aX (nI n) f (nI q) zf zn co (nI b) td rg pa vl) [(cI, .int), (cZ, .boolean)] ob n P := ⟨15, 16, 0, oc, cI, f, rfl, rfl, rfl, hn8, hf⟩
    refine rd_callV (As := [.int u]) (rest := []) ⟨hx, hb, hml, hown, hts⟩ (c_X0_has l D hbd u) (cwV 1 hts gX4_clash_X0_has rfl rfl rfl (by decide +kernel) ⟨by decide, by decide⟩) hK hN hP (q0 := 15) rfl rfl rfl hl.1 rfl (Nat.le_of_ble_eq_true rfl) ⟨by decide, by decide⟩ dX4_clash_16 ?_
    refine rd_ifne_b (tgt := 32) hx hb dX4_clash_19 (by decide) (fun c_19 => ?_) (fun c_19 => ?_)
    · obtain ⟨i, hi, ei⟩ := (gHas_iff hn8).mp c_8
      rw [ei] at hl
      have hl : lv_has ls 5 [(0, .ref ox), (1, .int (nI i)), (2, .int y), (3, .int u), (4, .int z)] := hl
      obtain ⟨j, hj, ej⟩ := (gHas_iff hn8).mp c_19
      rw [ej] at hl
      have hl : lv_has ls 5 [(0, .ref ox), (1, .int (nI i)), (2, .int y), (3, .int (nI j)), (4, .int z)] := hl
      refine lv_iload_n hx hb dX4_clash_32 rfl (lv_at hl 1 rfl) ?_
      refine lv_iload_n hx hb dX4_clash_33 rfl (lv_at hl 3 rfl) ?_
      refine rd_icmp_eq_n (a := i) (b := j) (tgt := 52) (by omega) (by omega) hx hb dX4_clash_34 (by decide) (fun c_34 => ?_) (fun c_34 => ?_)
      · exact wx_throw (cls := "java/lang/IllegalArgumentException") (text := "the points are the same, or a corner is out of range") (ik := 48) (is := 177) (ic := 52) hx hb hfl hown hlocks htab (hl.1.trans hml.symm) hT hP hS rfl (⟨Or.inr (⟨rfl, by unfold spClash; dsimp only; rw [if_pos (by rw [c_8, c_19]; rfl), if_neg (by rw [show decide (¬ x = u) = false from decide_eq_false (fun q9 => q9 (by rw [ei, ej, c_34]))]; exact Bool.false_ne_true)]⟩), _, _, _, _, _, _, _, _, _, _, _, _, _, _, _, _, _, _, _, _, _, _, _, _, hf, hh, rfl⟩) (by decide +kernel) (hts (.classLink RX4 48 "java/lang/IllegalArgumentException") (by decide +kernel)) (hts (.initialized "java/lang/IllegalArgumentException") (by decide +kernel)) (by decide) (fun w hw => hts w (List.mem_cons_of_mem _ (List.mem_append_right _ hw))) (by decide +kernel) hT.2.2.1.1 (by decide +kernel) dX4_clash_52 dX4_clash_55 dX4_clash_56 dX4_clash_58 dX4_clash_61 (by decide) (by decide) (by decide) (by decide)
      · refine lv_iload_n hx hb dX4_clash_37 rfl (lv_at hl 2 rfl) ?_
        refine rd_callS (As := [.int y]) (rest := []) ⟨hx, hb, hml, hown, hts⟩ (c_X4_isCorner l D y) (va_cwS 1 hts gX4_clash_X4_isCorner rfl rfl rfl (by decide +kernel) ⟨by decide, by decide⟩) hK hN hP rfl hl.1 rfl (Nat.le_of_ble_eq_true rfl) ⟨by decide, by decide⟩ dX4_clash_38 ?_
        refine rd_ifeq_b (tgt := 52) hx hb dX4_clash_41 (by decide) (fun c_41 => ?_) (fun c_41 => ?_)
        · exact wx_throw (cls := "java/lang/IllegalArgumentException") (text := "the points are the same, or a corner is out of range") (ik := 48) (is := 177) (ic := 52) hx hb hfl hown hlocks htab (hl.1.trans hml.symm) hT hP hS rfl (⟨Or.inr (⟨rfl, by unfold spClash; dsimp only; rw [if_pos (by rw [c_8, c_19]; rfl), if_neg (by rw [c_41, Bool.false_and, Bool.and_false]; decide)]⟩), _, _, _, _, _, _, _, _, _, _, _, _, _, _, _, _, _, _, _, _, _, _, _, _, hf, hh, rfl⟩) (by decide +kernel) (hts (.classLink RX4 48 "java/lang/IllegalArgumentException") (by decide +kernel)) (hts (.initialized "java/lang/IllegalArgumentException") (by decide +kernel)) (by decide) (fun w hw => hts w (List.mem_cons_of_mem _ (List.mem_append_right _ hw))) (by decide +kernel) hT.2.2.1.1 (by decide +kernel) dX4_clash_52 dX4_clash_55 dX4_clash_56 dX4_clash_58 dX4_clash_61 (by decide) (by decide) (by decide) (by decide)
        · refine lv_iload hx hb dX4_clash_44 (lv_at hl 4 rfl) ?_
          refine rd_callS (As := [.int z]) (rest := []) ⟨hx, hb, hml, hown, hts⟩ (c_X4_isCorner l D z) (va_cwS 1 hts gX4_clash_X4_isCorner rfl rfl rfl (by decide +kernel) ⟨by decide, by decide⟩) hK hN hP rfl hl.1 rfl (Nat.le_of_ble_eq_true rfl) ⟨by decide, by decide⟩ dX4_clash_46 ?_
          refine rd_ifne_b (tgt := 62) hx hb dX4_clash_49 (by decide) (fun c_49 => ?_) (fun c_49 => ?_)
          · refine lv_aload_n hx hb dX4_clash_62 rfl (lv_at hl 0 rfl) ?_
            refine va_get (D := D) (ci := 4) (v := .ref ob) (C := RX4) (T := TX4) (N := 4) hx hb hts hinX4 hown hK hP 0 rfl rfl 0 (by decide) hw10 (fun _ h9 => h9) rfl dX4_clash_63 ?_
            refine lv_iload_n hx hb dX4_clash_66 rfl (lv_at hl 1 rfl) ?_
            refine lv_iload_n hx hb dX4_clash_67 rfl (lv_at hl 2 rfl) ?_
            refine lv_iload_n hx hb dX4_clash_68 rfl (lv_at hl 3 rfl) ?_
            refine lv_iload hx hb dX4_clash_69 (lv_at hl 4 rfl) ?_
            have hbd : bd_in (ClW ox op xO xW xN xC xA xM xG xT xH xR xF xB xX ob oc oh hc hp ot yc yt cI cZ kn aO aW aN aC aA kS aM aG aT aH aR aF kF aB kT aX (nI n) f (nI q) zf zn co (nI b) td rg pa vl) [(cI, .int), (cZ, .boolean)] ob n P := ⟨15, 16, 0, oc, cI, f, rfl, rfl, rfl, hn8, hf⟩
            refine rd_callV (As := [.int (nI i), .int y, .int (nI j), .int z]) (rest := []) ⟨hx, hb, hml, hown, hts⟩ (c_X0_sharedSquares l D hbd hi y hj z) (cwV 4 hts gX4_clash_X0_sharedSquares rfl rfl rfl (by decide +kernel) ⟨by decide, by decide⟩) hK hN hP (q0 := 15) rfl rfl rfl hl.1 rfl (Nat.le_of_ble_eq_true rfl) ⟨by decide, by decide⟩ dX4_clash_71 ?_
            exact wx_iret hx hb hr hlocks hP hS rfl dX4_clash_74 (by exact ⟨_, ((n, P), (q, hs), (b, co)), rfl, by unfold spClash; dsimp only; rw [if_pos (by rw [c_8, c_19]; rfl), if_pos (by rw [show decide (¬ x = u) = true from decide_eq_true (fun q9 => c_34 ((nI_eq (by omega) (by omega)).mp (by rw [← ei, ← ej]; exact q9))), c_41, c_49]; rfl), ei, ej, ix_n (i := i) (by omega), ix_n (i := j) (by omega)], _, _, _, _, _, _, _, _, _, _, _, _, _, _, _, _, _, _, _, _, _, _, _, _, hf, hh, rfl⟩)
          · exact wx_throw (cls := "java/lang/IllegalArgumentException") (text := "the points are the same, or a corner is out of range") (ik := 48) (is := 177) (ic := 52) hx hb hfl hown hlocks htab (hl.1.trans hml.symm) hT hP hS rfl (⟨Or.inr (⟨rfl, by unfold spClash; dsimp only; rw [if_pos (by rw [c_8, c_19]; rfl), if_neg (by rw [c_49, Bool.and_false, Bool.and_false]; decide)]⟩), _, _, _, _, _, _, _, _, _, _, _, _, _, _, _, _, _, _, _, _, _, _, _, _, hf, hh, rfl⟩) (by decide +kernel) (hts (.classLink RX4 48 "java/lang/IllegalArgumentException") (by decide +kernel)) (hts (.initialized "java/lang/IllegalArgumentException") (by decide +kernel)) (by decide) (fun w hw => hts w (List.mem_cons_of_mem _ (List.mem_append_right _ hw))) (by decide +kernel) hT.2.2.1.1 (by decide +kernel) dX4_clash_52 dX4_clash_55 dX4_clash_56 dX4_clash_58 dX4_clash_61 (by decide) (by decide) (by decide) (by decide)
    · exact wx_throw (cls := "java/lang/IndexOutOfBoundsException") (text := "no such point") (ik := 74) (is := 76) (ic := 78) hx hb hfl hown hlocks htab (hl.1.trans hml.symm) hT hP hS rfl (⟨Or.inl ⟨rfl, by unfold spClash; dsimp only; rw [if_neg (by rw [c_19, Bool.and_false]; decide)]⟩, _, _, _, _, _, _, _, _, _, _, _, _, _, _, _, _, _, _, _, _, _, _, _, _, hf, hh, rfl⟩) (by decide +kernel) (hts (.classLink RX4 74 "java/lang/IndexOutOfBoundsException") (by decide +kernel)) (hts (.initialized "java/lang/IndexOutOfBoundsException") (by decide +kernel)) (by decide) (fun w hw => hts w (List.mem_cons_of_mem _ (List.mem_append_left _ (List.mem_append_right _ hw)))) (by decide +kernel) hT.2.2.1.2.2.1 (by decide +kernel) dX4_clash_22 dX4_clash_25 dX4_clash_26 dX4_clash_28 dX4_clash_31 (by decide) (by decide) (by decide) (by decide)
set_option maxHeartbeats 4000000 in
set_option maxRecDepth 100000 in
theorem c_X4_at (l : Launch) (hfl : l.stackTraces = false) (D : va_G) {ox op xO xW xN xC xA xM xG xT xH xR xF xB xX ob oc oh hc hp ot yc yt : Nat} {cI : ClassId} {cZ : ClassId} {n q b : Nat} {P : Nat → Nat → Int32} {kn kS kF kT rg pa vl : Int32} {aO aW aN aC aA aM aG aT aH aR aF aB aX f zf zn co td : Nat → Int32} {hs : Nat → BS} (hA : aOK ((n, P), (q, hs), (b, co))) (hf : clB n P f) (hh : clH q hs zf zn) (x y : Int32) : wx_M l yX4_at wsX4_at ({ frames := 6, cells := 1, slots := 6, locals := 82 } : Room) D (ClW ox op xO xW xN xC xA xM xG xT xH xR xF xB xX ob oc oh hc hp ot yc yt cI cZ kn aO aW aN aC aA kS aM aG aT aH aR aF kF aB kT aX (nI n) f (nI q) zf zn co (nI b) td rg pa vl) [(cI, .int), (cZ, .boolean)] [.ref ox, .int x, .int y] (fun v w9 => ∃ (r9 : Int32) (A9 : AS), v = some (.int r9) ∧ spAt ((n, P), (q, hs), (b, co)) x y = (0, r9, A9) ∧ ClP ox op xO xW xN xC xA xM xG xT xH xR xF xB xX ob oc oh hc hp ot yc yt cI cZ A9 w9) (fun E w9 => ((E = "java/lang/IllegalArgumentException" ∧ spAt ((n, P), (q, hs), (b, co)) x y = (1, 0, ((n, P), (q, hs), (b, co))))) ∧ ClP ox op xO xW xN xC xA xM xG xT xH xR xF xB xX ob oc oh hc hp ot yc yt cI cZ ((n, P), (q, hs), (b, co)) w9) := by
  have hn8 : n ≤ 8 := hA.1.1
  have hbk : bd_ok n P := hA.1.2.1
  have hgd : bd_gd n P := hA.1.2.2
  have hq6 : q ≤ 6 := hA.2.1
  have hhs : ∀ j, j < q → (hs j).1 ≤ 8 := fun j hj => (hA.2.2.1 j hj).1
  have hb60 : b ≤ 60 := hA.2.2.2
  refine wx_of (cc := cX4_at) (maxL := 5) (ret := some .int) (by decide) rfl (Nat.le_of_ble_eq_true rfl) ?_
  intro p e s m below meth c hx hb hr hml hts hown hlocks htab hP hK hN hZ hT hD hS ls hl
  have hown : s.vm.findClass RX4 = some m.cls := hown
  have hl : lv_has ls 5 [(0, .ref ox), (1, .int x), (2, .int y)] := hl
  have hinX4 : ∀ w ∈ u_ws RX4 TX4 4, w ∈ wsX4_at := by decide +kernel
  have hw10 := hts (.fieldLink RX4 10 "CornerLabels" "board" "LCornerLabels$Board;") (by decide +kernel)
  suffices body : ∀ (H : Heap) (locs : List Loc), va_P D vwCl (ClW ox op xO xW xN xC xA xM xG xT xH xR xF xB xX ob oc oh hc hp ot yc yt cI cZ kn aO aW aN aC aA kS aM aG aT aH aR aF kF aB kT aX (nI n) f (nI q) zf zn co (nI b) td rg pa vl) H → va_D (wr_in (ClW ox op xO xW xN xC xA xM xG xT xH xR xF xB xX ob oc oh hc hp ot yc yt cI cZ kn aO aW aN aC aA kS aM aG aT aH aR aF kF aB kT aX (nI n) f (nI q) zf zn co (nI b) td rg pa vl)) (ClW ox op xO xW xN xC xA xM xG xT xH xR xF xB xX ob oc oh hc hp ot yc yt cI cZ kn aO aW aN aC aA kS aM aG aT aH aR aF kF aB kT aX (nI n) f (nI q) zf zn co (nI b) td rg pa vl) → va_S (wr_in (ClW ox op xO xW xN xC xA xM xG xT xH xR xF xB xX ob oc oh hc hp ot yc yt cI cZ kn aO aW aN aC aA kS aM aG aT aH aR aF kF aB kT aX (nI n) f (nI q) zf zn co (nI b) td rg pa vl)) s.heap H locs → wx_W p l e wsX4_at ({ frames := 6, cells := 1, slots := 6, locals := 82 } : Room) s m [.ref ox, .int x, .int y] below meth c D (ClW ox op xO xW xN xC xA xM xG xT xH xR xF xB xX ob oc oh hc hp ot yc yt cI cZ kn aO aW aN aC aA kS aM aG aT aH aR aF kF aB kT aX (nI n) f (nI q) zf zn co (nI b) td rg pa vl) (fun v w9 => ∃ (r9 : Int32) (A9 : AS), v = some (.int r9) ∧ spAt ((n, P), (q, hs), (b, co)) x y = (0, r9, A9) ∧ ClP ox op xO xW xN xC xA xM xG xT xH xR xF xB xX ob oc oh hc hp ot yc yt cI cZ A9 w9) (fun E w9 => ((E = "java/lang/IllegalArgumentException" ∧ spAt ((n, P), (q, hs), (b, co)) x y = (1, 0, ((n, P), (q, hs), (b, co))))) ∧ ClP ox op xO xW xN xC xA xM xG xT xH xR xF xB xX ob oc oh hc hp ot yc yt cI cZ ((n, P), (q, hs), (b, co)) w9) H locs (F0 m 0 ls []) from body _ _ hP hD hS
  clear hP hD hS
  intro H locs hP hD hS
  refine lv_iload_n hx hb dX4_at_0 rfl (lv_at hl 1 rfl) ?_
  refine lv_iload_n hx hb dX4_at_1 rfl (lv_at hl 2 rfl) ?_
  refine rd_callS (As := [.int x, .int y]) (rest := []) ⟨hx, hb, hml, hown, hts⟩ (c_X4_isSquare l D x y) (va_cwS 2 hts gX4_at_X4_isSquare rfl rfl rfl (by decide +kernel) ⟨by decide, by decide⟩) hK hN hP rfl hl.1 rfl (Nat.le_of_ble_eq_true rfl) ⟨by decide, by decide⟩ dX4_at_2 ?_
  refine rd_ifne_b (tgt := 18) hx hb dX4_at_5 (by decide) (fun c_5 => ?_) (fun c_5 => ?_)
  · refine lv_aload_n hx hb dX4_at_18 rfl (lv_at hl 0 rfl) ?_
    refine va_get (D := D) (ci := 4) (v := .ref ob) (C := RX4) (T := TX4) (N := 4) hx hb hts hinX4 hown hK hP 0 rfl rfl 0 (by decide) hw10 (fun _ h9 => h9) rfl dX4_at_19 ?_
    refine lv_iload_n hx hb dX4_at_22 rfl (lv_at hl 1 rfl) ?_
    refine lv_iload_n hx hb dX4_at_23 rfl (lv_at hl 2 rfl) ?_
    have hbd : bd_in (ClW ox op xO xW xN xC xA xM xG xT xH xR xF xB xX ob oc oh hc hp ot yc yt cI cZ kn aO aW aN aC aA kS aM aG aT aH aR aF kF aB kT aX (nI n) f (nI q) zf zn co (nI b) td rg pa vl) [(cI, .int), (cZ, .boolean)] ob n P := ⟨15, 16, 0, oc, cI, f, rfl, rfl, rfl, hn8, hf⟩
    refine rd_callV (As := [.int x, .int y]) (rest := []) ⟨hx, hb, hml, hown, hts⟩ (c_X0_pointOn l D hbd x y) (cwV 2 hts gX4_at_X0_pointOn rfl rfl rfl (by decide +kernel) ⟨by decide, by decide⟩) hK hN hP (q0 := 15) rfl rfl rfl hl.1 rfl (Nat.le_of_ble_eq_true rfl) ⟨by decide, by decide⟩ dX4_at_24 ?_
    refine lv_istore_n (lv' := [(3, .int (gPt n P x y)), (0, .ref ox), (1, .int x), (2, .int y)]) hx hb dX4_at_27 rfl hl (by decide) rfl (fun ls hl => ?_)
    refine lv_iload_n hx hb dX4_at_28 rfl (lv_at hl 0 rfl) ?_
    refine lv_iconst (v := (-1)) hx hb dX4_at_29 (by decide) ?_
    refine lv_icmp_eq (tgt := 35) hx hb dX4_at_30 (by decide) (fun c_30 => ?_) (fun c_30 => ?_)
    · refine lv_aload_n hx hb dX4_at_35 rfl (lv_at hl 1 rfl) ?_
      refine va_get (D := D) (ci := 4) (v := .ref ob) (C := RX4) (T := TX4) (N := 4) hx hb hts hinX4 hown hK hP 0 rfl rfl 0 (by decide) hw10 (fun _ h9 => h9) rfl dX4_at_36 ?_
      refine lv_iload_n hx hb dX4_at_39 rfl (lv_at hl 2 rfl) ?_
      refine lv_iload_n hx hb dX4_at_40 rfl (lv_at hl 3 rfl) ?_
      have hbd : bd_in (ClW ox op xO xW xN xC xA xM xG xT xH xR xF xB xX ob oc oh hc hp ot yc yt cI cZ kn aO aW aN aC aA kS aM aG aT aH aR aF kF aB kT aX (nI n) f (nI q) zf zn co (nI b) td rg pa vl) [(cI, .int), (cZ, .boolean)] ob n P := ⟨15, 16, 0, oc, cI, f, rfl, rfl, rfl, hn8, hf⟩
      refine rd_callV (As := [.int x, .int y]) (rest := []) ⟨hx, hb, hml, hown, hts⟩ (c_X0_labelOn l D hbd x y) (cwV 2 hts gX4_at_X0_labelOn rfl rfl rfl (by decide +kernel) ⟨by decide, by decide⟩) hK hN hP (q0 := 15) rfl rfl rfl hl.1 rfl (Nat.le_of_ble_eq_true rfl) ⟨by decide, by decide⟩ dX4_at_41 ?_
      refine lv_istore (lv' := [(4, .int (gLb n P x y)), (3, .int (gPt n P x y)), (0, .ref ox), (1, .int x), (2, .int y)]) hx hb dX4_at_44 hl (by decide) rfl (fun ls hl => ?_)
      refine lv_iload hx hb dX4_at_46 (lv_at hl 0 rfl) ?_
      refine lv_iconst (v := (-1)) hx hb dX4_at_48 (by decide) ?_
      refine lv_icmp_ne (tgt := 56) hx hb dX4_at_49 (by decide) (fun c_49 => ?_) (fun c_49 => ?_)
      · refine lv_iload hx hb dX4_at_56 (lv_at hl 0 rfl) ?_
        refine lv_bipush (v := 100) hx hb dX4_at_58 (by decide) ?_
        refine lv_iadd hx hb dX4_at_60 ?_
        exact wx_iret hx hb hr hlocks hP hS rfl dX4_at_61 (by exact ⟨_, ((n, P), (q, hs), (b, co)), rfl, by unfold spAt; dsimp only; rw [if_pos c_5, at_same hbk hgd hn8, if_pos c_30, if_neg c_49], _, _, _, _, _, _, _, _, _, _, _, _, _, _, _, _, _, _, _, _, _, _, _, _, hf, hh, rfl⟩)
      · refine lv_iconst (v := (-1)) hx hb dX4_at_52 (by decide) ?_
        refine lv_goto (tgt := 61) hx hb dX4_at_53 (by decide) ?_
        exact wx_iret hx hb hr hlocks hP hS rfl dX4_at_61 (by exact ⟨_, ((n, P), (q, hs), (b, co)), rfl, by unfold spAt; dsimp only; rw [if_pos c_5, at_same hbk hgd hn8, if_pos c_30, if_pos c_49], _, _, _, _, _, _, _, _, _, _, _, _, _, _, _, _, _, _, _, _, _, _, _, _, hf, hh, rfl⟩)
    · refine lv_iload_n hx hb dX4_at_33 rfl (lv_at hl 0 rfl) ?_
      exact wx_iret hx hb hr hlocks hP hS rfl dX4_at_34 (by exact ⟨_, ((n, P), (q, hs), (b, co)), rfl, by unfold spAt; dsimp only; rw [if_pos c_5, at_same hbk hgd hn8, if_neg c_30], _, _, _, _, _, _, _, _, _, _, _, _, _, _, _, _, _, _, _, _, _, _, _, _, hf, hh, rfl⟩)
  · exact wx_throw (cls := "java/lang/IllegalArgumentException") (text := "x or y is out of range") (ik := 48) (is := 183) (ic := 52) hx hb hfl hown hlocks htab (hl.1.trans hml.symm) hT hP hS rfl (⟨⟨rfl, by unfold spAt; dsimp only; rw [if_neg (bF c_5)]⟩, _, _, _, _, _, _, _, _, _, _, _, _, _, _, _, _, _, _, _, _, _, _, _, _, hf, hh, rfl⟩) (by decide +kernel) (hts (.classLink RX4 48 "java/lang/IllegalArgumentException") (by decide +kernel)) (hts (.initialized "java/lang/IllegalArgumentException") (by decide +kernel)) (by decide) (fun w hw => hts w (List.mem_cons_of_mem _ (List.mem_append_right _ hw))) (by decide +kernel) hT.2.2.1.1 (by decide +kernel) dX4_at_8 dX4_at_11 dX4_at_12 dX4_at_14 dX4_at_17 (by decide) (by decide) (by decide) (by decide)
set_option maxHeartbeats 4000000 in
set_option maxRecDepth 100000 in
theorem c_X4_count (l : Launch) (hfl : l.stackTraces = false) (D : va_G) {ox op xO xW xN xC xA xM xG xT xH xR xF xB xX ob oc oh hc hp ot yc yt : Nat} {cI : ClassId} {cZ : ClassId} {n q b : Nat} {P : Nat → Nat → Int32} {kn kS kF kT rg pa vl : Int32} {aO aW aN aC aA aM aG aT aH aR aF aB aX f zf zn co td : Nat → Int32} {hs : Nat → BS} (hA : aOK ((n, P), (q, hs), (b, co))) (hf : clB n P f) (hh : clH q hs zf zn) (x : Int32) : wx_M l yX4_count wsX4_count ({ frames := 6, cells := 1, slots := 6, locals := 142 } : Room) D (ClW ox op xO xW xN xC xA xM xG xT xH xR xF xB xX ob oc oh hc hp ot yc yt cI cZ kn aO aW aN aC aA kS aM aG aT aH aR aF kF aB kT aX (nI n) f (nI q) zf zn co (nI b) td rg pa vl) [(cI, .int), (cZ, .boolean)] [.ref ox, .int x] (fun v w9 => ∃ (r9 : Int32) (A9 : AS), v = some (.int r9) ∧ spCount ((n, P), (q, hs), (b, co)) x = (0, r9, A9) ∧ ClP ox op xO xW xN xC xA xM xG xT xH xR xF xB xX ob oc oh hc hp ot yc yt cI cZ A9 w9) (fun E w9 => ((E = "java/lang/IllegalArgumentException" ∧ spCount ((n, P), (q, hs), (b, co)) x = (1, 0, ((n, P), (q, hs), (b, co))))) ∧ ClP ox op xO xW xN xC xA xM xG xT xH xR xF xB xX ob oc oh hc hp ot yc yt cI cZ ((n, P), (q, hs), (b, co)) w9) := by
  have hn8 : n ≤ 8 := hA.1.1
  have hbk : bd_ok n P := hA.1.2.1
  have hgd : bd_gd n P := hA.1.2.2
  have hq6 : q ≤ 6 := hA.2.1
  have hhs : ∀ j, j < q → (hs j).1 ≤ 8 := fun j hj => (hA.2.2.1 j hj).1
  have hb60 : b ≤ 60 := hA.2.2.2
  refine wx_of (cc := cX4_count) (maxL := 2) (ret := some .int) (by decide) rfl (Nat.le_of_ble_eq_true rfl) ?_
  intro p e s m below meth c hx hb hr hml hts hown hlocks htab hP hK hN hZ hT hD hS ls hl
  have hown : s.vm.findClass RX4 = some m.cls := hown
  have hl : lv_has ls 2 [(0, .ref ox), (1, .int x)] := hl
  suffices body : ∀ (H : Heap) (locs : List Loc), va_P D vwCl (ClW ox op xO xW xN xC xA xM xG xT xH xR xF xB xX ob oc oh hc hp ot yc yt cI cZ kn aO aW aN aC aA kS aM aG aT aH aR aF kF aB kT aX (nI n) f (nI q) zf zn co (nI b) td rg pa vl) H → va_D (wr_in (ClW ox op xO xW xN xC xA xM xG xT xH xR xF xB xX ob oc oh hc hp ot yc yt cI cZ kn aO aW aN aC aA kS aM aG aT aH aR aF kF aB kT aX (nI n) f (nI q) zf zn co (nI b) td rg pa vl)) (ClW ox op xO xW xN xC xA xM xG xT xH xR xF xB xX ob oc oh hc hp ot yc yt cI cZ kn aO aW aN aC aA kS aM aG aT aH aR aF kF aB kT aX (nI n) f (nI q) zf zn co (nI b) td rg pa vl) → va_S (wr_in (ClW ox op xO xW xN xC xA xM xG xT xH xR xF xB xX ob oc oh hc hp ot yc yt cI cZ kn aO aW aN aC aA kS aM aG aT aH aR aF kF aB kT aX (nI n) f (nI q) zf zn co (nI b) td rg pa vl)) s.heap H locs → wx_W p l e wsX4_count ({ frames := 6, cells := 1, slots := 6, locals := 142 } : Room) s m [.ref ox, .int x] below meth c D (ClW ox op xO xW xN xC xA xM xG xT xH xR xF xB xX ob oc oh hc hp ot yc yt cI cZ kn aO aW aN aC aA kS aM aG aT aH aR aF kF aB kT aX (nI n) f (nI q) zf zn co (nI b) td rg pa vl) (fun v w9 => ∃ (r9 : Int32) (A9 : AS), v = some (.int r9) ∧ spCount ((n, P), (q, hs), (b, co)) x = (0, r9, A9) ∧ ClP ox op xO xW xN xC xA xM xG xT xH xR xF xB xX ob oc oh hc hp ot yc yt cI cZ A9 w9) (fun E w9 => ((E = "java/lang/IllegalArgumentException" ∧ spCount ((n, P), (q, hs), (b, co)) x = (1, 0, ((n, P), (q, hs), (b, co))))) ∧ ClP ox op xO xW xN xC xA xM xG xT xH xR xF xB xX ob oc oh hc hp ot yc yt cI cZ ((n, P), (q, hs), (b, co)) w9) H locs (F0 m 0 ls []) from body _ _ hP hD hS
  clear hP hD hS
  intro H locs hP hD hS
  refine lv_iload_n hx hb dX4_count_0 rfl (lv_at hl 1 rfl) ?_
  refine lv_if_lt (tgt := 10) hx hb dX4_count_1 (by decide) (fun c_1 => ?_) (fun c_1 => ?_)
  · have c_1n := Int32.not_le.mpr c_1
    exact wx_throw (cls := "java/lang/IllegalArgumentException") (text := "what is not 0 to 8") (ik := 48) (is := 172) (ic := 52) hx hb hfl hown hlocks htab (hl.1.trans hml.symm) hT hP hS rfl (⟨⟨rfl, by unfold spCount; dsimp only; rw [if_neg (bF (mIn_lo c_1))]⟩, _, _, _, _, _, _, _, _, _, _, _, _, _, _, _, _, _, _, _, _, _, _, _, _, hf, hh, rfl⟩) (by decide +kernel) (hts (.classLink RX4 48 "java/lang/IllegalArgumentException") (by decide +kernel)) (hts (.initialized "java/lang/IllegalArgumentException") (by decide +kernel)) (by decide) (fun w hw => hts w (List.mem_cons_of_mem _ (List.mem_append_right _ hw))) (by decide +kernel) hT.2.2.1.1 (by decide +kernel) dX4_count_10 dX4_count_13 dX4_count_14 dX4_count_16 dX4_count_19 (by decide) (by decide) (by decide) (by decide)
  · have c_1n := Int32.not_lt.mp c_1
    refine lv_iload_n hx hb dX4_count_4 rfl (lv_at hl 1 rfl) ?_
    refine lv_bipush (v := 8) hx hb dX4_count_5 (by decide) ?_
    refine lv_icmp_le (tgt := 20) hx hb dX4_count_7 (by decide) (fun c_7 => ?_) (fun c_7 => ?_)
    · have c_7n := Int32.not_lt.mpr c_7
      obtain ⟨k, hk, ek⟩ := mIn_nat (m := 8) (mIn_t c_1n c_7) (by decide)
      rw [ek] at hl
      have hl : lv_has ls 2 [(0, .ref ox), (1, .int (nI k))] := hl
      refine lv_aload_n hx hb dX4_count_20 rfl (lv_at hl 0 rfl) ?_
      refine lv_iload_n hx hb dX4_count_21 rfl (lv_at hl 1 rfl) ?_
      refine wr_callVF (As := [.int (nI k)]) (rest := []) ⟨hx, hb, hml, hown, hts⟩ (c_X4_number (k := k) l D hn8 hbk hf (by omega)) (cwV 1 hts gX4_count_X4_number rfl rfl rfl (by decide +kernel) ⟨by decide, by decide⟩) hK hN hZ hP hD hS (q0 := 0) rfl rfl rfl hl.1 rfl (Nat.le_of_ble_eq_true rfl) ⟨by decide, by decide⟩ dX4_count_22 (fun v9 w9 H locs hp9 hP hD hS => ?_)
      obtain ⟨rfl, kn_22, aO_22, aW_22, aN_22, aC_22, rfl⟩ := hp9
      have hP : va_P D vwCl (ClW ox op xO xW xN xC xA xM xG xT xH xR xF xB xX ob oc oh hc hp ot yc yt cI cZ kn_22 aO_22 aW_22 aN_22 aC_22 aA kS aM aG aT aH aR aF kF aB kT aX (nI n) f (nI q) zf zn co (nI b) td rg pa vl) H := hP
      have hD : va_D (wr_in (ClW ox op xO xW xN xC xA xM xG xT xH xR xF xB xX ob oc oh hc hp ot yc yt cI cZ kn aO aW aN aC aA kS aM aG aT aH aR aF kF aB kT aX (nI n) f (nI q) zf zn co (nI b) td rg pa vl)) (ClW ox op xO xW xN xC xA xM xG xT xH xR xF xB xX ob oc oh hc hp ot yc yt cI cZ kn_22 aO_22 aW_22 aN_22 aC_22 aA kS aM aG aT aH aR aF kF aB kT aX (nI n) f (nI q) zf zn co (nI b) td rg pa vl) := hD
      refine W.eq (g2 := F0 m 25 ls [.int (mCnt n P (nI q) k)]) rfl ?_
      exact wx_iret hx hb hr hlocks hP hS rfl dX4_count_25 (by exact ⟨_, ((n, P), (q, hs), (b, co)), rfl, by unfold spCount; dsimp only; rw [if_pos (mIn_t c_1n c_7), ek, ix_n (i := k) (by omega)], _, _, _, _, _, _, _, _, _, _, _, _, _, _, _, _, _, _, _, _, _, _, _, _, hf, hh, rfl⟩)
    · have c_7n := Int32.not_le.mp c_7
      exact wx_throw (cls := "java/lang/IllegalArgumentException") (text := "what is not 0 to 8") (ik := 48) (is := 172) (ic := 52) hx hb hfl hown hlocks htab (hl.1.trans hml.symm) hT hP hS rfl (⟨⟨rfl, by unfold spCount; dsimp only; rw [if_neg (bF (mIn_hi c_7n))]⟩, _, _, _, _, _, _, _, _, _, _, _, _, _, _, _, _, _, _, _, _, _, _, _, _, hf, hh, rfl⟩) (by decide +kernel) (hts (.classLink RX4 48 "java/lang/IllegalArgumentException") (by decide +kernel)) (hts (.initialized "java/lang/IllegalArgumentException") (by decide +kernel)) (by decide) (fun w hw => hts w (List.mem_cons_of_mem _ (List.mem_append_right _ hw))) (by decide +kernel) hT.2.2.1.1 (by decide +kernel) dX4_count_10 dX4_count_13 dX4_count_14 dX4_count_16 dX4_count_19 (by decide) (by decide) (by decide) (by decide)
set_option maxHeartbeats 4000000 in
set_option maxRecDepth 100000 in
theorem c_X4_best (l : Launch) (hfl : l.stackTraces = false) (D : va_G) {ox op xO xW xN xC xA xM xG xT xH xR xF xB xX ob oc oh hc hp ot yc yt : Nat} {cI : ClassId} {cZ : ClassId} {n q b : Nat} {P : Nat → Nat → Int32} {kn kS kF kT rg pa vl : Int32} {aO aW aN aC aA aM aG aT aH aR aF aB aX f zf zn co td : Nat → Int32} {hs : Nat → BS} (hA : aOK ((n, P), (q, hs), (b, co))) (hf : clB n P f) (hh : clH q hs zf zn) (x : Int32) : wx_M l yX4_best wsX4_best ({ frames := 14, cells := 1, slots := 6, locals := 388 } : Room) D (ClW ox op xO xW xN xC xA xM xG xT xH xR xF xB xX ob oc oh hc hp ot yc yt cI cZ kn aO aW aN aC aA kS aM aG aT aH aR aF kF aB kT aX (nI n) f (nI q) zf zn co (nI b) td rg pa vl) [(cI, .int), (cZ, .boolean)] [.ref ox, .int x] (fun v w9 => ∃ (r9 : Int32) (A9 : AS), v = some (.int r9) ∧ spBest ((n, P), (q, hs), (b, co)) x = (0, r9, A9) ∧ ClP ox op xO xW xN xC xA xM xG xT xH xR xF xB xX ob oc oh hc hp ot yc yt cI cZ A9 w9) (fun E w9 => ((E = "java/lang/IndexOutOfBoundsException" ∧ spBest ((n, P), (q, hs), (b, co)) x = (1, 0, ((n, P), (q, hs), (b, co))))) ∧ ClP ox op xO xW xN xC xA xM xG xT xH xR xF xB xX ob oc oh hc hp ot yc yt cI cZ ((n, P), (q, hs), (b, co)) w9) := by
  have hn8 : n ≤ 8 := hA.1.1
  have hbk : bd_ok n P := hA.1.2.1
  have hgd : bd_gd n P := hA.1.2.2
  have hq6 : q ≤ 6 := hA.2.1
  have hhs : ∀ j, j < q → (hs j).1 ≤ 8 := fun j hj => (hA.2.2.1 j hj).1
  have hb60 : b ≤ 60 := hA.2.2.2
  refine wx_of (cc := cX4_best) (maxL := 2) (ret := some .int) (by decide) rfl (Nat.le_of_ble_eq_true rfl) ?_
  intro p e s m below meth c hx hb hr hml hts hown hlocks htab hP hK hN hZ hT hD hS ls hl
  have hown : s.vm.findClass RX4 = some m.cls := hown
  have hl : lv_has ls 2 [(0, .ref ox), (1, .int x)] := hl
  have hinX4 : ∀ w ∈ u_ws RX4 TX4 4, w ∈ wsX4_best := by decide +kernel
  have hw10 := hts (.fieldLink RX4 10 "CornerLabels" "board" "LCornerLabels$Board;") (by decide +kernel)
  have hw33 := hts (.fieldLink RX4 33 "CornerLabels" "plans" "LCornerLabels$Plans;") (by decide +kernel)
  have hinX2 : ∀ w ∈ u_ws RX2 TX2 17, w ∈ wsX4_best := by decide +kernel
  have hw197 := hts (.fieldLink RX4 197 "CornerLabels$Plans" "bestCorners" "[I") (by decide +kernel)
  suffices body : ∀ (H : Heap) (locs : List Loc), va_P D vwCl (ClW ox op xO xW xN xC xA xM xG xT xH xR xF xB xX ob oc oh hc hp ot yc yt cI cZ kn aO aW aN aC aA kS aM aG aT aH aR aF kF aB kT aX (nI n) f (nI q) zf zn co (nI b) td rg pa vl) H → va_D (wr_in (ClW ox op xO xW xN xC xA xM xG xT xH xR xF xB xX ob oc oh hc hp ot yc yt cI cZ kn aO aW aN aC aA kS aM aG aT aH aR aF kF aB kT aX (nI n) f (nI q) zf zn co (nI b) td rg pa vl)) (ClW ox op xO xW xN xC xA xM xG xT xH xR xF xB xX ob oc oh hc hp ot yc yt cI cZ kn aO aW aN aC aA kS aM aG aT aH aR aF kF aB kT aX (nI n) f (nI q) zf zn co (nI b) td rg pa vl) → va_S (wr_in (ClW ox op xO xW xN xC xA xM xG xT xH xR xF xB xX ob oc oh hc hp ot yc yt cI cZ kn aO aW aN aC aA kS aM aG aT aH aR aF kF aB kT aX (nI n) f (nI q) zf zn co (nI b) td rg pa vl)) s.heap H locs → wx_W p l e wsX4_best ({ frames := 14, cells := 1, slots := 6, locals := 388 } : Room) s m [.ref ox, .int x] below meth c D (ClW ox op xO xW xN xC xA xM xG xT xH xR xF xB xX ob oc oh hc hp ot yc yt cI cZ kn aO aW aN aC aA kS aM aG aT aH aR aF kF aB kT aX (nI n) f (nI q) zf zn co (nI b) td rg pa vl) (fun v w9 => ∃ (r9 : Int32) (A9 : AS), v = some (.int r9) ∧ spBest ((n, P), (q, hs), (b, co)) x = (0, r9, A9) ∧ ClP ox op xO xW xN xC xA xM xG xT xH xR xF xB xX ob oc oh hc hp ot yc yt cI cZ A9 w9) (fun E w9 => ((E = "java/lang/IndexOutOfBoundsException" ∧ spBest ((n, P), (q, hs), (b, co)) x = (1, 0, ((n, P), (q, hs), (b, co))))) ∧ ClP ox op xO xW xN xC xA xM xG xT xH xR xF xB xX ob oc oh hc hp ot yc yt cI cZ ((n, P), (q, hs), (b, co)) w9) H locs (F0 m 0 ls []) from body _ _ hP hD hS
  clear hP hD hS
  intro H locs hP hD hS
  refine lv_aload_n hx hb dX4_best_0 rfl (lv_at hl 0 rfl) ?_
  refine va_get (D := D) (ci := 4) (v := .ref ob) (C := RX4) (T := TX4) (N := 4) hx hb hts hinX4 hown hK hP 0 rfl rfl 0 (by decide) hw10 (fun _ h9 => h9) rfl dX4_best_1 ?_
  refine lv_iload_n hx hb dX4_best_4 rfl (lv_at hl 1 rfl) ?_
  have hbd : bd_in (ClW ox op xO xW xN xC xA xM xG xT xH xR xF xB xX ob oc oh hc hp ot yc yt cI cZ kn aO aW aN aC aA kS aM aG aT aH aR aF kF aB kT aX (nI n) f (nI q) zf zn co (nI b) td rg pa vl) [(cI, .int), (cZ, .boolean)] ob n P := ⟨15, 16, 0, oc, cI, f, rfl, rfl, rfl, hn8, hf⟩
  refine rd_callV (As := [.int x]) (rest := []) ⟨hx, hb, hml, hown, hts⟩ (c_X0_has l D hbd x) (cwV 1 hts gX4_best_X0_has rfl rfl rfl (by decide +kernel) ⟨by decide, by decide⟩) hK hN hP (q0 := 15) rfl rfl rfl hl.1 rfl (Nat.le_of_ble_eq_true rfl) ⟨by decide, by decide⟩ dX4_best_5 ?_
  refine rd_ifne_b (tgt := 21) hx hb dX4_best_8 (by decide) (fun c_8 => ?_) (fun c_8 => ?_)
  · obtain ⟨i, hi, ei⟩ := (gHas_iff hn8).mp c_8
    rw [ei] at hl
    have hl : lv_has ls 2 [(0, .ref ox), (1, .int (nI i))] := hl
    refine lv_aload_n hx hb dX4_best_21 rfl (lv_at hl 0 rfl) ?_
    refine va_get (D := D) (ci := 4) (v := .ref op) (C := RX4) (T := TX4) (N := 4) hx hb hts hinX4 hown hK hP 0 rfl rfl 3 (by decide) hw33 (fun _ h9 => h9) rfl dX4_best_22 ?_
    refine lv_aload_n hx hb dX4_best_25 rfl (lv_at hl 0 rfl) ?_
    refine va_get (D := D) (ci := 4) (v := .ref ob) (C := RX4) (T := TX4) (N := 4) hx hb hts hinX4 hown hK hP 0 rfl rfl 0 (by decide) hw10 (fun _ h9 => h9) rfl dX4_best_26 ?_
    refine wr_callV (As := [.ref ob]) (rest := []) ⟨hx, hb, hml, hown, hts⟩ (c_X2_look (P := P) l D hn8 hf) (cwV 1 hts gX4_best_X2_look rfl rfl rfl (by decide +kernel) ⟨by decide, by decide⟩) hK hN hZ hP hD hS [1, 2, 3, 4, 5, 6, 7, 8, 9, 10, 11, 12, 13, 14, 15, 16] [0, 1] rfl (by decide) rfl (q0 := 1) rfl rfl rfl hl.1 rfl (Nat.le_of_ble_eq_true rfl) ⟨by decide, by decide⟩ dX4_best_29 (fun v9 w9 H locs hp9 hP hD hS => ?_)
    obtain ⟨aO_29, aW_29, aN_29, aC_29, hO_29, hC_29, rfl, rfl⟩ := hp9
    have hP : va_P D vwCl (ClW ox op xO xW xN xC xA xM xG xT xH xR xF xB xX ob oc oh hc hp ot yc yt cI cZ (nI n) aO_29 aW_29 aN_29 aC_29 aA kS aM aG aT aH aR aF kF aB kT aX (nI n) f (nI q) zf zn co (nI b) td rg pa vl) H := hP
    have hD : va_D (wr_in (ClW ox op xO xW xN xC xA xM xG xT xH xR xF xB xX ob oc oh hc hp ot yc yt cI cZ kn aO aW aN aC aA kS aM aG aT aH aR aF kF aB kT aX (nI n) f (nI q) zf zn co (nI b) td rg pa vl)) (ClW ox op xO xW xN xC xA xM xG xT xH xR xF xB xX ob oc oh hc hp ot yc yt cI cZ (nI n) aO_29 aW_29 aN_29 aC_29 aA kS aM aG aT aH aR aF kF aB kT aX (nI n) f (nI q) zf zn co (nI b) td rg pa vl) := hD
    refine W.eq (g2 := F0 m 32 ls []) rfl ?_
    refine lv_aload_n hx hb dX4_best_32 rfl (lv_at hl 0 rfl) ?_
    refine va_get (D := D) (ci := 4) (v := .ref op) (C := RX4) (T := TX4) (N := 4) hx hb hts hinX4 hown hK hP 0 rfl rfl 3 (by decide) hw33 (fun _ h9 => h9) rfl dX4_best_33 ?_
    refine wr_callV (As := []) (rest := []) ⟨hx, hb, hml, hown, hts⟩ (c_X2_findBest l D hn8 hbk hO_29 hC_29) (cwV 0 hts gX4_best_X2_findBest rfl rfl rfl (by decide +kernel) ⟨by decide, by decide⟩) hK hN hZ hP hD hS [1, 2, 3, 4, 5, 6, 7, 8, 9, 10, 11, 12, 13, 14, 15, 16] [0, 1] rfl (by decide) rfl (q0 := 1) rfl rfl rfl hl.1 rfl (Nat.le_of_ble_eq_true rfl) ⟨by decide, by decide⟩ dX4_best_36 (fun v9 w9 H locs hp9 hP hD hS => ?_)
    obtain ⟨rfl, kS_36, aA_36, aM_36, aG_36, aT_36, aH_36, aR_36, aF_36, aB_36, hB_36, rfl⟩ := hp9
    have hP : va_P D vwCl (ClW ox op xO xW xN xC xA xM xG xT xH xR xF xB xX ob oc oh hc hp ot yc yt cI cZ (nI n) aO_29 aW_29 aN_29 aC_29 aA_36 kS_36 aM_36 aG_36 aT_36 aH_36 aR_36 aF_36 (hvW n P (-1)) aB_36 (hvW n P (-1)) aX (nI n) f (nI q) zf zn co (nI b) td rg pa vl) H := hP
    have hD : va_D (wr_in (ClW ox op xO xW xN xC xA xM xG xT xH xR xF xB xX ob oc oh hc hp ot yc yt cI cZ kn aO aW aN aC aA kS aM aG aT aH aR aF kF aB kT aX (nI n) f (nI q) zf zn co (nI b) td rg pa vl)) (ClW ox op xO xW xN xC xA xM xG xT xH xR xF xB xX ob oc oh hc hp ot yc yt cI cZ (nI n) aO_29 aW_29 aN_29 aC_29 aA_36 kS_36 aM_36 aG_36 aT_36 aH_36 aR_36 aF_36 (hvW n P (-1)) aB_36 (hvW n P (-1)) aX (nI n) f (nI q) zf zn co (nI b) td rg pa vl) := hD
    refine W.eq (g2 := F0 m 39 ls []) rfl ?_
    refine lv_aload_n hx hb dX4_best_39 rfl (lv_at hl 0 rfl) ?_
    refine va_get (D := D) (ci := 4) (v := .ref op) (C := RX4) (T := TX4) (N := 4) hx hb hts hinX4 hown hK hP 0 rfl rfl 3 (by decide) hw33 (fun _ h9 => h9) rfl dX4_best_40 ?_
    refine va_get (D := D) (ci := 2) (v := .ref xB) (C := RX2) (T := TX2) (N := 17) hx hb hts hinX2 hown hK hP 1 rfl rfl 14 (by decide) hw197 (fun _ h9 => h9) rfl dX4_best_43 ?_
    refine lv_iload_n hx hb dX4_best_46 rfl (lv_at hl 1 rfl) ?_
    refine rd_ald (q0 := 13) (t0 := 0) (j := i) (v := lay ((mHv n P (-1) (fun _ => 0)).2 i)) hx hb hK hP rfl rfl (rfl) (by omega) (by decide) (hB_36 i hi) dX4_best_47 ?_
    exact wx_iret hx hb hr hlocks hP hS rfl dX4_best_48 (by exact ⟨_, ((n, P), (q, hs), (b, co)), rfl, by unfold spBest; dsimp only; rw [if_pos c_8, ei, ix_n (by omega)], _, _, _, _, _, _, _, _, _, _, _, _, _, _, _, _, _, _, _, _, _, _, _, _, hf, hh, rfl⟩)
  · exact wx_throw (cls := "java/lang/IndexOutOfBoundsException") (text := "no such point") (ik := 74) (is := 76) (ic := 78) hx hb hfl hown hlocks htab (hl.1.trans hml.symm) hT hP hS rfl (⟨⟨rfl, by unfold spBest; dsimp only; rw [if_neg (bF c_8)]⟩, _, _, _, _, _, _, _, _, _, _, _, _, _, _, _, _, _, _, _, _, _, _, _, _, hf, hh, rfl⟩) (by decide +kernel) (hts (.classLink RX4 74 "java/lang/IndexOutOfBoundsException") (by decide +kernel)) (hts (.initialized "java/lang/IndexOutOfBoundsException") (by decide +kernel)) (by decide) (fun w hw => hts w (List.mem_cons_of_mem _ (List.mem_append_right _ hw))) (by decide +kernel) hT.2.2.1.2.2.1 (by decide +kernel) dX4_best_11 dX4_best_14 dX4_best_15 dX4_best_17 dX4_best_20 (by decide) (by decide) (by decide) (by decide)
set_option maxHeartbeats 4000000 in
set_option maxRecDepth 100000 in
theorem c_X4_bestWeight (l : Launch) (hfl : l.stackTraces = false) (D : va_G) {ox op xO xW xN xC xA xM xG xT xH xR xF xB xX ob oc oh hc hp ot yc yt : Nat} {cI : ClassId} {cZ : ClassId} {n q b : Nat} {P : Nat → Nat → Int32} {kn kS kF kT rg pa vl : Int32} {aO aW aN aC aA aM aG aT aH aR aF aB aX f zf zn co td : Nat → Int32} {hs : Nat → BS} (hA : aOK ((n, P), (q, hs), (b, co))) (hf : clB n P f) (hh : clH q hs zf zn) (x : Int32) : wx_M l yX4_bestWeight wsX4_bestWeight ({ frames := 13, cells := 1, slots := 6, locals := 368 } : Room) D (ClW ox op xO xW xN xC xA xM xG xT xH xR xF xB xX ob oc oh hc hp ot yc yt cI cZ kn aO aW aN aC aA kS aM aG aT aH aR aF kF aB kT aX (nI n) f (nI q) zf zn co (nI b) td rg pa vl) [(cI, .int), (cZ, .boolean)] [.ref ox, .int x] (fun v w9 => ∃ (r9 : Int32) (A9 : AS), v = some (.int r9) ∧ spBestW ((n, P), (q, hs), (b, co)) x = (0, r9, A9) ∧ ClP ox op xO xW xN xC xA xM xG xT xH xR xF xB xX ob oc oh hc hp ot yc yt cI cZ A9 w9) (fun E w9 => ((E = "java/lang/IndexOutOfBoundsException" ∧ spBestW ((n, P), (q, hs), (b, co)) x = (1, 0, ((n, P), (q, hs), (b, co))))) ∧ ClP ox op xO xW xN xC xA xM xG xT xH xR xF xB xX ob oc oh hc hp ot yc yt cI cZ ((n, P), (q, hs), (b, co)) w9) := by
  have hn8 : n ≤ 8 := hA.1.1
  have hbk : bd_ok n P := hA.1.2.1
  have hgd : bd_gd n P := hA.1.2.2
  have hq6 : q ≤ 6 := hA.2.1
  have hhs : ∀ j, j < q → (hs j).1 ≤ 8 := fun j hj => (hA.2.2.1 j hj).1
  have hb60 : b ≤ 60 := hA.2.2.2
  refine wx_of (cc := cX4_bestWeight) (maxL := 2) (ret := some .int) (by decide) rfl (Nat.le_of_ble_eq_true rfl) ?_
  intro p e s m below meth c hx hb hr hml hts hown hlocks htab hP hK hN hZ hT hD hS ls hl
  have hown : s.vm.findClass RX4 = some m.cls := hown
  have hl : lv_has ls 2 [(0, .ref ox), (1, .int x)] := hl
  have hinX4 : ∀ w ∈ u_ws RX4 TX4 4, w ∈ wsX4_bestWeight := by decide +kernel
  have hw33 := hts (.fieldLink RX4 33 "CornerLabels" "plans" "LCornerLabels$Plans;") (by decide +kernel)
  have hw10 := hts (.fieldLink RX4 10 "CornerLabels" "board" "LCornerLabels$Board;") (by decide +kernel)
  suffices body : ∀ (H : Heap) (locs : List Loc), va_P D vwCl (ClW ox op xO xW xN xC xA xM xG xT xH xR xF xB xX ob oc oh hc hp ot yc yt cI cZ kn aO aW aN aC aA kS aM aG aT aH aR aF kF aB kT aX (nI n) f (nI q) zf zn co (nI b) td rg pa vl) H → va_D (wr_in (ClW ox op xO xW xN xC xA xM xG xT xH xR xF xB xX ob oc oh hc hp ot yc yt cI cZ kn aO aW aN aC aA kS aM aG aT aH aR aF kF aB kT aX (nI n) f (nI q) zf zn co (nI b) td rg pa vl)) (ClW ox op xO xW xN xC xA xM xG xT xH xR xF xB xX ob oc oh hc hp ot yc yt cI cZ kn aO aW aN aC aA kS aM aG aT aH aR aF kF aB kT aX (nI n) f (nI q) zf zn co (nI b) td rg pa vl) → va_S (wr_in (ClW ox op xO xW xN xC xA xM xG xT xH xR xF xB xX ob oc oh hc hp ot yc yt cI cZ kn aO aW aN aC aA kS aM aG aT aH aR aF kF aB kT aX (nI n) f (nI q) zf zn co (nI b) td rg pa vl)) s.heap H locs → wx_W p l e wsX4_bestWeight ({ frames := 13, cells := 1, slots := 6, locals := 368 } : Room) s m [.ref ox, .int x] below meth c D (ClW ox op xO xW xN xC xA xM xG xT xH xR xF xB xX ob oc oh hc hp ot yc yt cI cZ kn aO aW aN aC aA kS aM aG aT aH aR aF kF aB kT aX (nI n) f (nI q) zf zn co (nI b) td rg pa vl) (fun v w9 => ∃ (r9 : Int32) (A9 : AS), v = some (.int r9) ∧ spBestW ((n, P), (q, hs), (b, co)) x = (0, r9, A9) ∧ ClP ox op xO xW xN xC xA xM xG xT xH xR xF xB xX ob oc oh hc hp ot yc yt cI cZ A9 w9) (fun E w9 => ((E = "java/lang/IndexOutOfBoundsException" ∧ spBestW ((n, P), (q, hs), (b, co)) x = (1, 0, ((n, P), (q, hs), (b, co))))) ∧ ClP ox op xO xW xN xC xA xM xG xT xH xR xF xB xX ob oc oh hc hp ot yc yt cI cZ ((n, P), (q, hs), (b, co)) w9) H locs (F0 m 0 ls []) from body _ _ hP hD hS
  clear hP hD hS
  intro H locs hP hD hS
  refine lv_iload_n hx hb dX4_bestWeight_0 rfl (lv_at hl 1 rfl) ?_
  refine lv_iconst (v := (-1)) hx hb dX4_bestWeight_1 (by decide) ?_
  refine lv_icmp_eq (tgt := 26) hx hb dX4_bestWeight_2 (by decide) (fun c_2 => ?_) (fun c_2 => ?_)
  · refine lv_aload_n hx hb dX4_bestWeight_26 rfl (lv_at hl 0 rfl) ?_
    refine va_get (D := D) (ci := 4) (v := .ref op) (C := RX4) (T := TX4) (N := 4) hx hb hts hinX4 hown hK hP 0 rfl rfl 3 (by decide) hw33 (fun _ h9 => h9) rfl dX4_bestWeight_27 ?_
    refine lv_aload_n hx hb dX4_bestWeight_30 rfl (lv_at hl 0 rfl) ?_
    refine va_get (D := D) (ci := 4) (v := .ref ob) (C := RX4) (T := TX4) (N := 4) hx hb hts hinX4 hown hK hP 0 rfl rfl 0 (by decide) hw10 (fun _ h9 => h9) rfl dX4_bestWeight_31 ?_
    refine wr_callV (As := [.ref ob]) (rest := []) ⟨hx, hb, hml, hown, hts⟩ (c_X2_look (P := P) l D hn8 hf) (cwV 1 hts gX4_bestWeight_X2_look rfl rfl rfl (by decide +kernel) ⟨by decide, by decide⟩) hK hN hZ hP hD hS [1, 2, 3, 4, 5, 6, 7, 8, 9, 10, 11, 12, 13, 14, 15, 16] [0, 1] rfl (by decide) rfl (q0 := 1) rfl rfl rfl hl.1 rfl (Nat.le_of_ble_eq_true rfl) ⟨by decide, by decide⟩ dX4_bestWeight_34 (fun v9 w9 H locs hp9 hP hD hS => ?_)
    obtain ⟨aO_34, aW_34, aN_34, aC_34, hO_34, hC_34, rfl, rfl⟩ := hp9
    have hP : va_P D vwCl (ClW ox op xO xW xN xC xA xM xG xT xH xR xF xB xX ob oc oh hc hp ot yc yt cI cZ (nI n) aO_34 aW_34 aN_34 aC_34 aA kS aM aG aT aH aR aF kF aB kT aX (nI n) f (nI q) zf zn co (nI b) td rg pa vl) H := hP
    have hD : va_D (wr_in (ClW ox op xO xW xN xC xA xM xG xT xH xR xF xB xX ob oc oh hc hp ot yc yt cI cZ kn aO aW aN aC aA kS aM aG aT aH aR aF kF aB kT aX (nI n) f (nI q) zf zn co (nI b) td rg pa vl)) (ClW ox op xO xW xN xC xA xM xG xT xH xR xF xB xX ob oc oh hc hp ot yc yt cI cZ (nI n) aO_34 aW_34 aN_34 aC_34 aA kS aM aG aT aH aR aF kF aB kT aX (nI n) f (nI q) zf zn co (nI b) td rg pa vl) := hD
    refine W.eq (g2 := F0 m 37 ls []) rfl ?_
    refine lv_aload_n hx hb dX4_bestWeight_37 rfl (lv_at hl 0 rfl) ?_
    refine va_get (D := D) (ci := 4) (v := .ref op) (C := RX4) (T := TX4) (N := 4) hx hb hts hinX4 hown hK hP 0 rfl rfl 3 (by decide) hw33 (fun _ h9 => h9) rfl dX4_bestWeight_38 ?_
    refine lv_iload_n hx hb dX4_bestWeight_41 rfl (lv_at hl 1 rfl) ?_
    refine wr_callV (As := [.int x]) (rest := []) ⟨hx, hb, hml, hown, hts⟩ (c_X2_hv l D hn8 hbk hO_34 hC_34 x) (cwV 1 hts gX4_bestWeight_X2_findHeaviest rfl rfl rfl (by decide +kernel) ⟨by decide, by decide⟩) hK hN hZ hP hD hS [1, 2, 3, 4, 5, 6, 7, 8, 9, 10, 11, 12, 13, 14, 15, 16] [0, 1] rfl (by decide) rfl (q0 := 1) rfl rfl rfl hl.1 rfl (Nat.le_of_ble_eq_true rfl) ⟨by decide, by decide⟩ dX4_bestWeight_42 (fun v9 w9 H locs hp9 hP hD hS => ?_)
    obtain ⟨kS_42, aA_42, aM_42, aG_42, aT_42, aH_42, aR_42, aF_42, hfd_42, rfl, rfl⟩ := hp9
    have hP : va_P D vwCl (ClW ox op xO xW xN xC xA xM xG xT xH xR xF xB xX ob oc oh hc hp ot yc yt cI cZ (nI n) aO_34 aW_34 aN_34 aC_34 aA_42 kS_42 aM_42 aG_42 aT_42 aH_42 aR_42 aF_42 (hvW n P x) aB kT aX (nI n) f (nI q) zf zn co (nI b) td rg pa vl) H := hP
    have hD : va_D (wr_in (ClW ox op xO xW xN xC xA xM xG xT xH xR xF xB xX ob oc oh hc hp ot yc yt cI cZ kn aO aW aN aC aA kS aM aG aT aH aR aF kF aB kT aX (nI n) f (nI q) zf zn co (nI b) td rg pa vl)) (ClW ox op xO xW xN xC xA xM xG xT xH xR xF xB xX ob oc oh hc hp ot yc yt cI cZ (nI n) aO_34 aW_34 aN_34 aC_34 aA_42 kS_42 aM_42 aG_42 aT_42 aH_42 aR_42 aF_42 (hvW n P x) aB kT aX (nI n) f (nI q) zf zn co (nI b) td rg pa vl) := hD
    refine W.eq (g2 := F0 m 45 ls [.int (hvW n P x)]) rfl ?_
    exact wx_iret hx hb hr hlocks hP hS rfl dX4_bestWeight_45 (by exact ⟨_, ((n, P), (q, hs), (b, co)), rfl, by unfold spBestW; dsimp only; rw [if_pos (Or.inl c_2)], _, _, _, _, _, _, _, _, _, _, _, _, _, _, _, _, _, _, _, _, _, _, _, _, hf, hh, rfl⟩)
  · refine lv_aload_n hx hb dX4_bestWeight_5 rfl (lv_at hl 0 rfl) ?_
    refine va_get (D := D) (ci := 4) (v := .ref ob) (C := RX4) (T := TX4) (N := 4) hx hb hts hinX4 hown hK hP 0 rfl rfl 0 (by decide) hw10 (fun _ h9 => h9) rfl dX4_bestWeight_6 ?_
    refine lv_iload_n hx hb dX4_bestWeight_9 rfl (lv_at hl 1 rfl) ?_
    have hbd : bd_in (ClW ox op xO xW xN xC xA xM xG xT xH xR xF xB xX ob oc oh hc hp ot yc yt cI cZ kn aO aW aN aC aA kS aM aG aT aH aR aF kF aB kT aX (nI n) f (nI q) zf zn co (nI b) td rg pa vl) [(cI, .int), (cZ, .boolean)] ob n P := ⟨15, 16, 0, oc, cI, f, rfl, rfl, rfl, hn8, hf⟩
    refine rd_callV (As := [.int x]) (rest := []) ⟨hx, hb, hml, hown, hts⟩ (c_X0_has l D hbd x) (cwV 1 hts gX4_bestWeight_X0_has rfl rfl rfl (by decide +kernel) ⟨by decide, by decide⟩) hK hN hP (q0 := 15) rfl rfl rfl hl.1 rfl (Nat.le_of_ble_eq_true rfl) ⟨by decide, by decide⟩ dX4_bestWeight_10 ?_
    refine rd_ifne_b (tgt := 26) hx hb dX4_bestWeight_13 (by decide) (fun c_13 => ?_) (fun c_13 => ?_)
    · refine lv_aload_n hx hb dX4_bestWeight_26 rfl (lv_at hl 0 rfl) ?_
      refine va_get (D := D) (ci := 4) (v := .ref op) (C := RX4) (T := TX4) (N := 4) hx hb hts hinX4 hown hK hP 0 rfl rfl 3 (by decide) hw33 (fun _ h9 => h9) rfl dX4_bestWeight_27 ?_
      refine lv_aload_n hx hb dX4_bestWeight_30 rfl (lv_at hl 0 rfl) ?_
      refine va_get (D := D) (ci := 4) (v := .ref ob) (C := RX4) (T := TX4) (N := 4) hx hb hts hinX4 hown hK hP 0 rfl rfl 0 (by decide) hw10 (fun _ h9 => h9) rfl dX4_bestWeight_31 ?_
      refine wr_callV (As := [.ref ob]) (rest := []) ⟨hx, hb, hml, hown, hts⟩ (c_X2_look (P := P) l D hn8 hf) (cwV 1 hts gX4_bestWeight_X2_look rfl rfl rfl (by decide +kernel) ⟨by decide, by decide⟩) hK hN hZ hP hD hS [1, 2, 3, 4, 5, 6, 7, 8, 9, 10, 11, 12, 13, 14, 15, 16] [0, 1] rfl (by decide) rfl (q0 := 1) rfl rfl rfl hl.1 rfl (Nat.le_of_ble_eq_true rfl) ⟨by decide, by decide⟩ dX4_bestWeight_34 (fun v9 w9 H locs hp9 hP hD hS => ?_)
      obtain ⟨aO_34, aW_34, aN_34, aC_34, hO_34, hC_34, rfl, rfl⟩ := hp9
      have hP : va_P D vwCl (ClW ox op xO xW xN xC xA xM xG xT xH xR xF xB xX ob oc oh hc hp ot yc yt cI cZ (nI n) aO_34 aW_34 aN_34 aC_34 aA kS aM aG aT aH aR aF kF aB kT aX (nI n) f (nI q) zf zn co (nI b) td rg pa vl) H := hP
      have hD : va_D (wr_in (ClW ox op xO xW xN xC xA xM xG xT xH xR xF xB xX ob oc oh hc hp ot yc yt cI cZ kn aO aW aN aC aA kS aM aG aT aH aR aF kF aB kT aX (nI n) f (nI q) zf zn co (nI b) td rg pa vl)) (ClW ox op xO xW xN xC xA xM xG xT xH xR xF xB xX ob oc oh hc hp ot yc yt cI cZ (nI n) aO_34 aW_34 aN_34 aC_34 aA kS aM aG aT aH aR aF kF aB kT aX (nI n) f (nI q) zf zn co (nI b) td rg pa vl) := hD
      refine W.eq (g2 := F0 m 37 ls []) rfl ?_
      refine lv_aload_n hx hb dX4_bestWeight_37 rfl (lv_at hl 0 rfl) ?_
      refine va_get (D := D) (ci := 4) (v := .ref op) (C := RX4) (T := TX4) (N := 4) hx hb hts hinX4 hown hK hP 0 rfl rfl 3 (by decide) hw33 (fun _ h9 => h9) rfl dX4_bestWeight_38 ?_
      refine lv_iload_n hx hb dX4_bestWeight_41 rfl (lv_at hl 1 rfl) ?_
      refine wr_callV (As := [.int x]) (rest := []) ⟨hx, hb, hml, hown, hts⟩ (c_X2_hv l D hn8 hbk hO_34 hC_34 x) (cwV 1 hts gX4_bestWeight_X2_findHeaviest rfl rfl rfl (by decide +kernel) ⟨by decide, by decide⟩) hK hN hZ hP hD hS [1, 2, 3, 4, 5, 6, 7, 8, 9, 10, 11, 12, 13, 14, 15, 16] [0, 1] rfl (by decide) rfl (q0 := 1) rfl rfl rfl hl.1 rfl (Nat.le_of_ble_eq_true rfl) ⟨by decide, by decide⟩ dX4_bestWeight_42 (fun v9 w9 H locs hp9 hP hD hS => ?_)
      obtain ⟨kS_42, aA_42, aM_42, aG_42, aT_42, aH_42, aR_42, aF_42, hfd_42, rfl, rfl⟩ := hp9
      have hP : va_P D vwCl (ClW ox op xO xW xN xC xA xM xG xT xH xR xF xB xX ob oc oh hc hp ot yc yt cI cZ (nI n) aO_34 aW_34 aN_34 aC_34 aA_42 kS_42 aM_42 aG_42 aT_42 aH_42 aR_42 aF_42 (hvW n P x) aB kT aX (nI n) f (nI q) zf zn co (nI b) td rg pa vl) H := hP
      have hD : va_D (wr_in (ClW ox op xO xW xN xC xA xM xG xT xH xR xF xB xX ob oc oh hc hp ot yc yt cI cZ kn aO aW aN aC aA kS aM aG aT aH aR aF kF aB kT aX (nI n) f (nI q) zf zn co (nI b) td rg pa vl)) (ClW ox op xO xW xN xC xA xM xG xT xH xR xF xB xX ob oc oh hc hp ot yc yt cI cZ (nI n) aO_34 aW_34 aN_34 aC_34 aA_42 kS_42 aM_42 aG_42 aT_42 aH_42 aR_42 aF_42 (hvW n P x) aB kT aX (nI n) f (nI q) zf zn co (nI b) td rg pa vl) := hD
      refine W.eq (g2 := F0 m 45 ls [.int (hvW n P x)]) rfl ?_
      exact wx_iret hx hb hr hlocks hP hS rfl dX4_bestWeight_45 (by exact ⟨_, ((n, P), (q, hs), (b, co)), rfl, by unfold spBestW; dsimp only; rw [if_pos (Or.inr c_13)], _, _, _, _, _, _, _, _, _, _, _, _, _, _, _, _, _, _, _, _, _, _, _, _, hf, hh, rfl⟩)
    · exact wx_throw (cls := "java/lang/IndexOutOfBoundsException") (text := "no such point") (ik := 74) (is := 76) (ic := 78) hx hb hfl hown hlocks htab (hl.1.trans hml.symm) hT hP hS rfl (⟨⟨rfl, by unfold spBestW; dsimp only; rw [if_neg (fun q9 => q9.elim c_2 (bF c_13))]⟩, _, _, _, _, _, _, _, _, _, _, _, _, _, _, _, _, _, _, _, _, _, _, _, _, hf, hh, rfl⟩) (by decide +kernel) (hts (.classLink RX4 74 "java/lang/IndexOutOfBoundsException") (by decide +kernel)) (hts (.initialized "java/lang/IndexOutOfBoundsException") (by decide +kernel)) (by decide) (fun w hw => hts w (List.mem_cons_of_mem _ (List.mem_append_right _ hw))) (by decide +kernel) hT.2.2.1.2.2.1 (by decide +kernel) dX4_bestWeight_16 dX4_bestWeight_19 dX4_bestWeight_20 dX4_bestWeight_22 dX4_bestWeight_25 (by decide) (by decide) (by decide) (by decide)
set_option maxHeartbeats 4000000 in
set_option maxRecDepth 100000 in
theorem c_X4_ifPushed (l : Launch) (hfl : l.stackTraces = false) (D : va_G) {ox op xO xW xN xC xA xM xG xT xH xR xF xB xX ob oc oh hc hp ot yc yt : Nat} {cI : ClassId} {cZ : ClassId} {n q b : Nat} {P : Nat → Nat → Int32} {kn kS kF kT rg pa vl : Int32} {aO aW aN aC aA aM aG aT aH aR aF aB aX f zf zn co td : Nat → Int32} {hs : Nat → BS} (hA : aOK ((n, P), (q, hs), (b, co))) (hf : clB n P f) (hh : clH q hs zf zn) (x : Int32) : wx_M l yX4_ifPushed wsX4_ifPushed ({ frames := 13, cells := 1, slots := 6, locals := 370 } : Room) D (ClW ox op xO xW xN xC xA xM xG xT xH xR xF xB xX ob oc oh hc hp ot yc yt cI cZ kn aO aW aN aC aA kS aM aG aT aH aR aF kF aB kT aX (nI n) f (nI q) zf zn co (nI b) td rg pa vl) [(cI, .int), (cZ, .boolean)] [.ref ox, .int x] (fun v w9 => ∃ (r9 : Int32) (A9 : AS), v = some (.int r9) ∧ spIfP ((n, P), (q, hs), (b, co)) x = (0, r9, A9) ∧ ClP ox op xO xW xN xC xA xM xG xT xH xR xF xB xX ob oc oh hc hp ot yc yt cI cZ A9 w9) (fun E w9 => ((E = "java/lang/IndexOutOfBoundsException" ∧ spIfP ((n, P), (q, hs), (b, co)) x = (1, 0, ((n, P), (q, hs), (b, co))))) ∧ ClP ox op xO xW xN xC xA xM xG xT xH xR xF xB xX ob oc oh hc hp ot yc yt cI cZ ((n, P), (q, hs), (b, co)) w9) := by
  have hn8 : n ≤ 8 := hA.1.1
  have hbk : bd_ok n P := hA.1.2.1
  have hgd : bd_gd n P := hA.1.2.2
  have hq6 : q ≤ 6 := hA.2.1
  have hhs : ∀ j, j < q → (hs j).1 ≤ 8 := fun j hj => (hA.2.2.1 j hj).1
  have hb60 : b ≤ 60 := hA.2.2.2
  refine wx_of (cc := cX4_ifPushed) (maxL := 2) (ret := some .int) (by decide) rfl (Nat.le_of_ble_eq_true rfl) ?_
  intro p e s m below meth c hx hb hr hml hts hown hlocks htab hP hK hN hZ hT hD hS ls hl
  have hown : s.vm.findClass RX4 = some m.cls := hown
  have hl : lv_has ls 2 [(0, .ref ox), (1, .int x)] := hl
  have hinX4 : ∀ w ∈ u_ws RX4 TX4 4, w ∈ wsX4_ifPushed := by decide +kernel
  have hw10 := hts (.fieldLink RX4 10 "CornerLabels" "board" "LCornerLabels$Board;") (by decide +kernel)
  have hw33 := hts (.fieldLink RX4 33 "CornerLabels" "plans" "LCornerLabels$Plans;") (by decide +kernel)
  suffices body : ∀ (H : Heap) (locs : List Loc), va_P D vwCl (ClW ox op xO xW xN xC xA xM xG xT xH xR xF xB xX ob oc oh hc hp ot yc yt cI cZ kn aO aW aN aC aA kS aM aG aT aH aR aF kF aB kT aX (nI n) f (nI q) zf zn co (nI b) td rg pa vl) H → va_D (wr_in (ClW ox op xO xW xN xC xA xM xG xT xH xR xF xB xX ob oc oh hc hp ot yc yt cI cZ kn aO aW aN aC aA kS aM aG aT aH aR aF kF aB kT aX (nI n) f (nI q) zf zn co (nI b) td rg pa vl)) (ClW ox op xO xW xN xC xA xM xG xT xH xR xF xB xX ob oc oh hc hp ot yc yt cI cZ kn aO aW aN aC aA kS aM aG aT aH aR aF kF aB kT aX (nI n) f (nI q) zf zn co (nI b) td rg pa vl) → va_S (wr_in (ClW ox op xO xW xN xC xA xM xG xT xH xR xF xB xX ob oc oh hc hp ot yc yt cI cZ kn aO aW aN aC aA kS aM aG aT aH aR aF kF aB kT aX (nI n) f (nI q) zf zn co (nI b) td rg pa vl)) s.heap H locs → wx_W p l e wsX4_ifPushed ({ frames := 13, cells := 1, slots := 6, locals := 370 } : Room) s m [.ref ox, .int x] below meth c D (ClW ox op xO xW xN xC xA xM xG xT xH xR xF xB xX ob oc oh hc hp ot yc yt cI cZ kn aO aW aN aC aA kS aM aG aT aH aR aF kF aB kT aX (nI n) f (nI q) zf zn co (nI b) td rg pa vl) (fun v w9 => ∃ (r9 : Int32) (A9 : AS), v = some (.int r9) ∧ spIfP ((n, P), (q, hs), (b, co)) x = (0, r9, A9) ∧ ClP ox op xO xW xN xC xA xM xG xT xH xR xF xB xX ob oc oh hc hp ot yc yt cI cZ A9 w9) (fun E w9 => ((E = "java/lang/IndexOutOfBoundsException" ∧ spIfP ((n, P), (q, hs), (b, co)) x = (1, 0, ((n, P), (q, hs), (b, co))))) ∧ ClP ox op xO xW xN xC xA xM xG xT xH xR xF xB xX ob oc oh hc hp ot yc yt cI cZ ((n, P), (q, hs), (b, co)) w9) H locs (F0 m 0 ls []) from body _ _ hP hD hS
  clear hP hD hS
  intro H locs hP hD hS
  refine lv_aload_n hx hb dX4_ifPushed_0 rfl (lv_at hl 0 rfl) ?_
  refine va_get (D := D) (ci := 4) (v := .ref ob) (C := RX4) (T := TX4) (N := 4) hx hb hts hinX4 hown hK hP 0 rfl rfl 0 (by decide) hw10 (fun _ h9 => h9) rfl dX4_ifPushed_1 ?_
  refine lv_iload_n hx hb dX4_ifPushed_4 rfl (lv_at hl 1 rfl) ?_
  have hbd : bd_in (ClW ox op xO xW xN xC xA xM xG xT xH xR xF xB xX ob oc oh hc hp ot yc yt cI cZ kn aO aW aN aC aA kS aM aG aT aH aR aF kF aB kT aX (nI n) f (nI q) zf zn co (nI b) td rg pa vl) [(cI, .int), (cZ, .boolean)] ob n P := ⟨15, 16, 0, oc, cI, f, rfl, rfl, rfl, hn8, hf⟩
  refine rd_callV (As := [.int x]) (rest := []) ⟨hx, hb, hml, hown, hts⟩ (c_X0_has l D hbd x) (cwV 1 hts gX4_ifPushed_X0_has rfl rfl rfl (by decide +kernel) ⟨by decide, by decide⟩) hK hN hP (q0 := 15) rfl rfl rfl hl.1 rfl (Nat.le_of_ble_eq_true rfl) ⟨by decide, by decide⟩ dX4_ifPushed_5 ?_
  refine rd_ifne_b (tgt := 21) hx hb dX4_ifPushed_8 (by decide) (fun c_8 => ?_) (fun c_8 => ?_)
  · obtain ⟨i, hi, ei⟩ := (gHas_iff hn8).mp c_8
    rw [ei] at hl
    have hl : lv_has ls 2 [(0, .ref ox), (1, .int (nI i))] := hl
    refine lv_aload_n hx hb dX4_ifPushed_21 rfl (lv_at hl 0 rfl) ?_
    refine va_get (D := D) (ci := 4) (v := .ref op) (C := RX4) (T := TX4) (N := 4) hx hb hts hinX4 hown hK hP 0 rfl rfl 3 (by decide) hw33 (fun _ h9 => h9) rfl dX4_ifPushed_22 ?_
    refine lv_aload_n hx hb dX4_ifPushed_25 rfl (lv_at hl 0 rfl) ?_
    refine va_get (D := D) (ci := 4) (v := .ref ob) (C := RX4) (T := TX4) (N := 4) hx hb hts hinX4 hown hK hP 0 rfl rfl 0 (by decide) hw10 (fun _ h9 => h9) rfl dX4_ifPushed_26 ?_
    refine wr_callV (As := [.ref ob]) (rest := []) ⟨hx, hb, hml, hown, hts⟩ (c_X2_look (P := P) l D hn8 hf) (cwV 1 hts gX4_ifPushed_X2_look rfl rfl rfl (by decide +kernel) ⟨by decide, by decide⟩) hK hN hZ hP hD hS [1, 2, 3, 4, 5, 6, 7, 8, 9, 10, 11, 12, 13, 14, 15, 16] [0, 1] rfl (by decide) rfl (q0 := 1) rfl rfl rfl hl.1 rfl (Nat.le_of_ble_eq_true rfl) ⟨by decide, by decide⟩ dX4_ifPushed_29 (fun v9 w9 H locs hp9 hP hD hS => ?_)
    obtain ⟨aO_29, aW_29, aN_29, aC_29, hO_29, hC_29, rfl, rfl⟩ := hp9
    have hP : va_P D vwCl (ClW ox op xO xW xN xC xA xM xG xT xH xR xF xB xX ob oc oh hc hp ot yc yt cI cZ (nI n) aO_29 aW_29 aN_29 aC_29 aA kS aM aG aT aH aR aF kF aB kT aX (nI n) f (nI q) zf zn co (nI b) td rg pa vl) H := hP
    have hD : va_D (wr_in (ClW ox op xO xW xN xC xA xM xG xT xH xR xF xB xX ob oc oh hc hp ot yc yt cI cZ kn aO aW aN aC aA kS aM aG aT aH aR aF kF aB kT aX (nI n) f (nI q) zf zn co (nI b) td rg pa vl)) (ClW ox op xO xW xN xC xA xM xG xT xH xR xF xB xX ob oc oh hc hp ot yc yt cI cZ (nI n) aO_29 aW_29 aN_29 aC_29 aA kS aM aG aT aH aR aF kF aB kT aX (nI n) f (nI q) zf zn co (nI b) td rg pa vl) := hD
    refine W.eq (g2 := F0 m 32 ls []) rfl ?_
    refine lv_aload_n hx hb dX4_ifPushed_32 rfl (lv_at hl 0 rfl) ?_
    refine va_get (D := D) (ci := 4) (v := .ref op) (C := RX4) (T := TX4) (N := 4) hx hb hts hinX4 hown hK hP 0 rfl rfl 3 (by decide) hw33 (fun _ h9 => h9) rfl dX4_ifPushed_33 ?_
    refine lv_iload_n hx hb dX4_ifPushed_36 rfl (lv_at hl 1 rfl) ?_
    refine wr_callV (As := [.int (nI i)]) (rest := []) ⟨hx, hb, hml, hown, hts⟩ (c_X2_room2 l D hn8 hbk hO_29 hC_29 hi) (cwV 1 hts gX4_ifPushed_X2_findRoom rfl rfl rfl (by decide +kernel) ⟨by decide, by decide⟩) hK hN hZ hP hD hS [1, 2, 3, 4, 5, 6, 7, 8, 9, 10, 11, 12, 13, 14, 15, 16] [0, 1] rfl (by decide) rfl (q0 := 1) rfl rfl rfl hl.1 rfl (Nat.le_of_ble_eq_true rfl) ⟨by decide, by decide⟩ dX4_ifPushed_37 (fun v9 w9 H locs hp9 hP hD hS => ?_)
    obtain ⟨kS_37, kF_37, aA_37, aM_37, aG_37, aT_37, aH_37, aR_37, aF_37, hrm_37, rfl, rfl⟩ := hp9
    have hP : va_P D vwCl (ClW ox op xO xW xN xC xA xM xG xT xH xR xF xB xX ob oc oh hc hp ot yc yt cI cZ (nI n) aO_29 aW_29 aN_29 aC_29 aA_37 kS_37 aM_37 aG_37 aT_37 aH_37 aR_37 aF_37 kF_37 aB kT aX (nI n) f (nI q) zf zn co (nI b) td rg pa vl) H := hP
    have hD : va_D (wr_in (ClW ox op xO xW xN xC xA xM xG xT xH xR xF xB xX ob oc oh hc hp ot yc yt cI cZ kn aO aW aN aC aA kS aM aG aT aH aR aF kF aB kT aX (nI n) f (nI q) zf zn co (nI b) td rg pa vl)) (ClW ox op xO xW xN xC xA xM xG xT xH xR xF xB xX ob oc oh hc hp ot yc yt cI cZ (nI n) aO_29 aW_29 aN_29 aC_29 aA_37 kS_37 aM_37 aG_37 aT_37 aH_37 aR_37 aF_37 kF_37 aB kT aX (nI n) f (nI q) zf zn co (nI b) td rg pa vl) := hD
    refine W.eq (g2 := F0 m 40 ls [.int (mMr n P i (fun _ => 0))]) rfl ?_
    exact wx_iret hx hb hr hlocks hP hS rfl dX4_ifPushed_40 (by exact ⟨_, ((n, P), (q, hs), (b, co)), rfl, by unfold spIfP; dsimp only; rw [if_pos c_8, ei, ix_n (by omega)], _, _, _, _, _, _, _, _, _, _, _, _, _, _, _, _, _, _, _, _, _, _, _, _, hf, hh, rfl⟩)
  · exact wx_throw (cls := "java/lang/IndexOutOfBoundsException") (text := "no such point") (ik := 74) (is := 76) (ic := 78) hx hb hfl hown hlocks htab (hl.1.trans hml.symm) hT hP hS rfl (⟨⟨rfl, by unfold spIfP; dsimp only; rw [if_neg (bF c_8)]⟩, _, _, _, _, _, _, _, _, _, _, _, _, _, _, _, _, _, _, _, _, _, _, _, _, hf, hh, rfl⟩) (by decide +kernel) (hts (.classLink RX4 74 "java/lang/IndexOutOfBoundsException") (by decide +kernel)) (hts (.initialized "java/lang/IndexOutOfBoundsException") (by decide +kernel)) (by decide) (fun w hw => hts w (List.mem_cons_of_mem _ (List.mem_append_right _ hw))) (by decide +kernel) hT.2.2.1.2.2.1 (by decide +kernel) dX4_ifPushed_11 dX4_ifPushed_14 dX4_ifPushed_15 dX4_ifPushed_17 dX4_ifPushed_20 (by decide) (by decide) (by decide) (by decide)
