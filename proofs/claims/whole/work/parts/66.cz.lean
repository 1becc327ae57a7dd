set_option maxHeartbeats 4000000 in
set_option maxRecDepth 100000 in
theorem c_X4_append (l : Launch) (hfl : l.stackTraces = false) (D : va_G) {ox op xO xW xN xC xA xM xG xT xH xR xF xB xX ob oc oh hc hp ot yc yt : Nat} {cI : ClassId} {cZ : ClassId} {n q b : Nat} {P : Nat → Nat → Int32} {kn kS kF kT rg pa vl : Int32} {aO aW aN aC aA aM aG aT aH aR aF aB aX f zf zn co td : Nat → Int32} {hs : Nat → BS} (hA : aOK ((n, P), (q, hs), (b, co))) (hf : clB n P f) (hh : clH q hs zf zn) (x : Int32) : wx_M l yX4_append wsX4_append ({ frames := 6, cells := 1, slots := 6, locals := 82 } : Room) D (ClW ox op xO xW xN xC xA xM xG xT xH xR xF xB xX ob oc oh hc hp ot yc yt cI cZ kn aO aW aN aC aA kS aM aG aT aH aR aF kF aB kT aX (nI n) f (nI q) zf zn co (nI b) td rg pa vl) [(cI, .int), (cZ, .boolean)] [.ref ox, .int x] (fun v w9 => ∃ (r9 : Int32) (A9 : AS), v = some (.int r9) ∧ spAppend ((n, P), (q, hs), (b, co)) x = (0, r9, A9) ∧ ClP ox op xO xW xN xC xA xM xG xT xH xR xF xB xX ob oc oh hc hp ot yc yt cI cZ A9 w9) (fun E w9 => ((E = "java/lang/IllegalArgumentException" ∧ spAppend ((n, P), (q, hs), (b, co)) x = (1, 0, ((n, P), (q, hs), (b, co)))) ∨ (E = "java/lang/IllegalStateException" ∧ spAppend ((n, P), (q, hs), (b, co)) x = (2, 0, ((n, P), (q, hs), (b, co))))) ∧ ClP ox op xO xW xN xC xA xM xG xT xH xR xF xB xX ob oc oh hc hp ot yc yt cI cZ ((n, P), (q, hs), (b, co)) w9) := by
  have hn8 : n ≤ 8 := hA.1.1
  have hbk : bd_ok n P := hA.1.2.1
  have hgd : bd_gd n P := hA.1.2.2
  have hq6 : q ≤ 6 := hA.2.1
  have hhs : ∀ j, j < q → (hs j).1 ≤ 8 := fun j hj => (hA.2.2.1 j hj).1
  have hb60 : b ≤ 60 := hA.2.2.2
  refine wx_of (cc := cX4_append) (maxL := 2) (ret := some .int) (by decide) rfl (Nat.le_of_ble_eq_true rfl) ?_
  intro p e s m below meth c hx hb hr hml hts hown hlocks htab hP hK hN hZ hT hD hS ls hl
  have hown : s.vm.findClass RX4 = some m.cls := hown
  have hl : lv_has ls 2 [(0, .ref ox), (1, .int x)] := hl
  have hinX4 : ∀ w ∈ u_ws RX4 TX4 4, w ∈ wsX4_append := by decide +kernel
  have hw26 := hts (.fieldLink RX4 26 "CornerLabels" "typed" "LCornerLabels$Typed;") (by decide +kernel)
  have hinX3 : ∀ w ∈ u_ws RX3 TX3 6, w ∈ wsX4_append := by decide +kernel
  have hw143 := hts (.fieldLink RX4 143 "CornerLabels$Typed" "length" "I") (by decide +kernel)
  suffices body : ∀ (H : Heap) (locs : List Loc), va_P D vwCl (ClW ox op xO xW xN xC xA xM xG xT xH xR xF xB xX ob oc oh hc hp ot yc yt cI cZ kn aO aW aN aC aA kS aM aG aT aH aR aF kF aB kT aX (nI n) f (nI q) zf zn co (nI b) td rg pa vl) H → va_D (wr_in (ClW ox op xO xW xN xC xA xM xG xT xH xR xF xB xX ob oc oh hc hp ot yc yt cI cZ kn aO aW aN aC aA kS aM aG aT aH aR aF kF aB kT aX (nI n) f (nI q) zf zn co (nI b) td rg pa vl)) (ClW ox op xO xW xN xC xA xM xG xT xH xR xF xB xX ob oc oh hc hp ot yc yt cI cZ kn aO aW aN aC aA kS aM aG aT aH aR aF kF aB kT aX (nI n) f (nI q) zf zn co (nI b) td rg pa vl) → va_S (wr_in (ClW ox op xO xW xN xC xA xM xG xT xH xR xF xB xX ob oc oh hc hp ot yc yt cI cZ kn aO aW aN aC aA kS aM aG aT aH aR aF kF aB kT aX (nI n) f (nI q) zf zn co (nI b) td rg pa vl)) s.heap H locs → wx_W p l e wsX4_append ({ frames := 6, cells := 1, slots := 6, locals := 82 } : Room) s m [.ref ox, .int x] below meth c D (ClW ox op xO xW xN xC xA xM xG xT xH xR xF xB xX ob oc oh hc hp ot yc yt cI cZ kn aO aW aN aC aA kS aM aG aT aH aR aF kF aB kT aX (nI n) f (nI q) zf zn co (nI b) td rg pa vl) (fun v w9 => ∃ (r9 : Int32) (A9 : AS), v = some (.int r9) ∧ spAppend ((n, P), (q, hs), (b, co)) x = (0, r9, A9) ∧ ClP ox op xO xW xN xC xA xM xG xT xH xR xF xB xX ob oc oh hc hp ot yc yt cI cZ A9 w9) (fun E w9 => ((E = "java/lang/IllegalArgumentException" ∧ spAppend ((n, P), (q, hs), (b, co)) x = (1, 0, ((n, P), (q, hs), (b, co)))) ∨ (E = "java/lang/IllegalStateException" ∧ spAppend ((n, P), (q, hs), (b, co)) x = (2, 0, ((n, P), (q, hs), (b, co))))) ∧ ClP ox op xO xW xN xC xA xM xG xT xH xR xF xB xX ob oc oh hc hp ot yc yt cI cZ ((n, P), (q, hs), (b, co)) w9) H locs (F0 m 0 ls []) from body _ _ hP hD hS
  clear hP hD hS
  intro H locs hP hD hS
  refine lv_iload_n hx hb dX4_append_0 rfl (lv_at hl 1 rfl) ?_
  refine lv_bipush (v := 33) hx hb dX4_append_1 (by decide) ?_
  refine lv_icmp_lt (tgt := 12) hx hb dX4_append_3 (by decide) (fun c_3 => ?_) (fun c_3 => ?_)
  · have c_3n := Int32.not_le.mpr c_3
    exact wx_throw (cls := "java/lang/IllegalArgumentException") (text := "code is not 33 to 126") (ik := 48) (is := 141) (ic := 52) hx hb hfl hown hlocks htab (hl.1.trans hml.symm) hT hP hS rfl (⟨Or.inl ⟨rfl, by unfold spAppend; dsimp only; rw [if_neg (bF (mIn_lo c_3))]⟩, _, _, _, _, _, _, _, _, _, _, _, _, _, _, _, _, _, _, _, _, _, _, _, _, hf, hh, rfl⟩) (by decide +kernel) (hts (.classLink RX4 48 "java/lang/IllegalArgumentException") (by decide +kernel)) (hts (.initialized "java/lang/IllegalArgumentException") (by decide +kernel)) (by decide) (fun w hw => hts w (List.mem_cons_of_mem _ (List.mem_append_left _ (List.mem_append_right _ hw)))) (by decide +kernel) hT.2.2.1.1 (by decide +kernel) dX4_append_12 dX4_append_15 dX4_append_16 dX4_append_18 dX4_append_21 (by decide) (by decide) (by decide) (by decide)
  · have c_3n := Int32.not_lt.mp c_3
    refine lv_iload_n hx hb dX4_append_6 rfl (lv_at hl 1 rfl) ?_
    refine lv_bipush (v := 126) hx hb dX4_append_7 (by decide) ?_
    refine lv_icmp_le (tgt := 22) hx hb dX4_append_9 (by decide) (fun c_9 => ?_) (fun c_9 => ?_)
    · have c_9n := Int32.not_lt.mpr c_9
      refine lv_aload_n hx hb dX4_append_22 rfl (lv_at hl 0 rfl) ?_
      refine va_get (D := D) (ci := 4) (v := .ref ot) (C := RX4) (T := TX4) (N := 4) hx hb hts hinX4 hown hK hP 0 rfl rfl 2 (by decide) hw26 (fun _ h9 => h9) rfl dX4_append_23 ?_
      refine va_get (D := D) (ci := 3) (v := .int (nI b)) (C := RX3) (T := TX3) (N := 6) hx hb hts hinX3 hown hK hP 20 rfl rfl 1 (by decide) hw143 (fun _ h9 => h9) rfl dX4_append_26 ?_
      refine lv_bipush (v := 60) hx hb dX4_append_29 (by decide) ?_
      refine rd_icmp_lt_n (a := b) (b := 60) (tgt := 44) (by omega) (by omega) hx hb dX4_append_31 (by decide) (fun c_31 => ?_) (fun c_31 => ?_)
      · have c_31n := Nat.not_le.mpr c_31
        refine lv_aload_n hx hb dX4_append_44 rfl (lv_at hl 0 rfl) ?_
        refine va_get (D := D) (ci := 4) (v := .ref ot) (C := RX4) (T := TX4) (N := 4) hx hb hts hinX4 hown hK hP 0 rfl rfl 2 (by decide) hw26 (fun _ h9 => h9) rfl dX4_append_45 ?_
        refine lv_iload_n hx hb dX4_append_48 rfl (lv_at hl 1 rfl) ?_
        refine wr_callV (As := [.int x]) (rest := []) ⟨hx, hb, hml, hown, hts⟩ (c_X3_write l D c_31 x) (cwV 1 hts gX4_append_X3_write rfl rfl rfl (by decide +kernel) ⟨by decide, by decide⟩) hK hN hZ hP hD hS [20, 21, 22] [0] rfl (by decide) rfl (q0 := 20) rfl rfl rfl hl.1 rfl (Nat.le_of_ble_eq_true rfl) ⟨by decide, by decide⟩ dX4_append_49 (fun v9 w9 H locs hp9 hP hD hS => ?_)
        obtain ⟨rfl, rfl⟩ := hp9
        have hP : va_P D vwCl (ClW ox op xO xW xN xC xA xM xG xT xH xR xF xB xX ob oc oh hc hp ot yc yt cI cZ kn aO aW aN aC aA kS aM aG aT aH aR aF kF aB kT aX (nI n) f (nI q) zf zn (upd co b x) (nI (b + 1)) td rg pa vl) H := hP
        have hD : va_D (wr_in (ClW ox op xO xW xN xC xA xM xG xT xH xR xF xB xX ob oc oh hc hp ot yc yt cI cZ kn aO aW aN aC aA kS aM aG aT aH aR aF kF aB kT aX (nI n) f (nI q) zf zn co (nI b) td rg pa vl)) (ClW ox op xO xW xN xC xA xM xG xT xH xR xF xB xX ob oc oh hc hp ot yc yt cI cZ kn aO aW aN aC aA kS aM aG aT aH aR aF kF aB kT aX (nI n) f (nI q) zf zn (upd co b x) (nI (b + 1)) td rg pa vl) := hD
        refine W.eq (g2 := F0 m 52 ls []) rfl ?_
        refine lv_aload_n hx hb dX4_append_52 rfl (lv_at hl 0 rfl) ?_
        refine va_get (D := D) (ci := 4) (v := .ref ot) (C := RX4) (T := TX4) (N := 4) hx hb hts hinX4 hown hK hP 0 rfl rfl 2 (by decide) hw26 (fun _ h9 => h9) rfl dX4_append_53 ?_
        refine va_get (D := D) (ci := 3) (v := .int (nI (b + 1))) (C := RX3) (T := TX3) (N := 6) hx hb hts hinX3 hown hK hP 20 rfl rfl 1 (by decide) hw143 (fun _ h9 => h9) rfl dX4_append_56 ?_
        exact wx_iret hx hb hr hlocks hP hS rfl dX4_append_59 (by exact ⟨_, ((n, P), (q, hs), (b + 1, upd co b x)), rfl, by unfold spAppend; dsimp only; rw [if_pos (mIn_t c_3n c_9), if_neg (show ¬ b = 60 by omega)], _, _, _, _, _, _, _, _, _, _, _, _, _, _, _, _, _, _, _, _, _, _, _, _, hf, hh, rfl⟩)
      · have c_31n := Nat.not_lt.mpr c_31
        exact wx_throw (cls := "java/lang/IllegalStateException") (text := "the buffer has 60 characters") (ik := 58) (is := 147) (ic := 62) hx hb hfl hown hlocks htab (hl.1.trans hml.symm) hT hP hS rfl (⟨Or.inr (⟨rfl, by unfold spAppend; dsimp only; rw [if_pos (mIn_t c_3n c_9), if_pos (show b = 60 by omega)]⟩), _, _, _, _, _, _, _, _, _, _, _, _, _, _, _, _, _, _, _, _, _, _, _, _, hf, hh, rfl⟩) (by decide +kernel) (hts (.classLink RX4 58 "java/lang/IllegalStateException") (by decide +kernel)) (hts (.initialized "java/lang/IllegalStateException") (by decide +kernel)) (by decide) (fun w hw => hts w (List.mem_cons_of_mem _ (List.mem_append_right _ hw))) (by decide +kernel) hT.2.2.1.2.1 (by decide +kernel) dX4_append_34 dX4_append_37 dX4_append_38 dX4_append_40 dX4_append_43 (by decide) (by decide) (by decide) (by decide)
    · have c_9n := Int32.not_le.mp c_9
      exact wx_throw (cls := "java/lang/IllegalArgumentException") (text := "code is not 33 to 126") (ik := 48) (is := 141) (ic := 52) hx hb hfl hown hlocks htab (hl.1.trans hml.symm) hT hP hS rfl (⟨Or.inl ⟨rfl, by unfold spAppend; dsimp only; rw [if_neg (bF (mIn_hi c_9n))]⟩, _, _, _, _, _, _, _, _, _, _, _, _, _, _, _, _, _, _, _, _, _, _, _, _, hf, hh, rfl⟩) (by decide +kernel) (hts (.classLink RX4 48 "java/lang/IllegalArgumentException") (by decide +kernel)) (hts (.initialized "java/lang/IllegalArgumentException") (by decide +kernel)) (by decide) (fun w hw => hts w (List.mem_cons_of_mem _ (List.mem_append_left _ (List.mem_append_right _ hw)))) (by decide +kernel) hT.2.2.1.1 (by decide +kernel) dX4_append_12 dX4_append_15 dX4_append_16 dX4_append_18 dX4_append_21 (by decide) (by decide) (by decide) (by decide)
set_option maxHeartbeats 4000000 in
set_option maxRecDepth 100000 in
theorem c_X4_read (l : Launch) (hfl : l.stackTraces = false) (D : va_G) {ox op xO xW xN xC xA xM xG xT xH xR xF xB xX ob oc oh hc hp ot yc yt : Nat} {cI : ClassId} {cZ : ClassId} {n q b : Nat} {P : Nat → Nat → Int32} {kn kS kF kT rg pa vl : Int32} {aO aW aN aC aA aM aG aT aH aR aF aB aX f zf zn co td : Nat → Int32} {hs : Nat → BS} (hA : aOK ((n, P), (q, hs), (b, co))) (hf : clB n P f) (hh : clH q hs zf zn) : wx_M l yX4_read wsX4_read ({ frames := 6, cells := 1, slots := 6, locals := 123 } : Room) D (ClW ox op xO xW xN xC xA xM xG xT xH xR xF xB xX ob oc oh hc hp ot yc yt cI cZ kn aO aW aN aC aA kS aM aG aT aH aR aF kF aB kT aX (nI n) f (nI q) zf zn co (nI b) td rg pa vl) [(cI, .int), (cZ, .boolean)] [.ref ox] (fun v w9 => ∃ (r9 : Int32) (A9 : AS), v = some (.int r9) ∧ spRead ((n, P), (q, hs), (b, co)) td = (0, r9, A9) ∧ ClP ox op xO xW xN xC xA xM xG xT xH xR xF xB xX ob oc oh hc hp ot yc yt cI cZ A9 w9) (fun E w9 => ((E = "java/lang/IllegalArgumentException" ∧ spRead ((n, P), (q, hs), (b, co)) td = (1, 0, ((n, P), (q, hs), (b, co))))) ∧ ClP ox op xO xW xN xC xA xM xG xT xH xR xF xB xX ob oc oh hc hp ot yc yt cI cZ ((n, P), (q, hs), (b, co)) w9) := by
  have hn8 : n ≤ 8 := hA.1.1
  have hbk : bd_ok n P := hA.1.2.1
  have hgd : bd_gd n P := hA.1.2.2
  have hq6 : q ≤ 6 := hA.2.1
  have hhs : ∀ j, j < q → (hs j).1 ≤ 8 := fun j hj => (hA.2.2.1 j hj).1
  have hb60 : b ≤ 60 := hA.2.2.2
  refine wx_of (cc := cX4_read) (maxL := 2) (ret := some .int) (by decide) rfl (Nat.le_of_ble_eq_true rfl) ?_
  intro p e s m below meth c hx hb hr hml hts hown hlocks htab hP hK hN hZ hT hD hS ls hl
  have hown : s.vm.findClass RX4 = some m.cls := hown
  have hl : lv_has ls 2 [(0, .ref ox)] := hl
  have hinX4 : ∀ w ∈ u_ws RX4 TX4 4, w ∈ wsX4_read := by decide +kernel
  have hw26 := hts (.fieldLink RX4 26 "CornerLabels" "typed" "LCornerLabels$Typed;") (by decide +kernel)
  have hinX3 : ∀ w ∈ u_ws RX3 TX3 6, w ∈ wsX4_read := by decide +kernel
  have hw143 := hts (.fieldLink RX4 143 "CornerLabels$Typed" "length" "I") (by decide +kernel)
  have hw19 := hts (.fieldLink RX4 19 "CornerLabels" "history" "LCornerLabels$History;") (by decide +kernel)
  have hw10 := hts (.fieldLink RX4 10 "CornerLabels" "board" "LCornerLabels$Board;") (by decide +kernel)
  suffices body : ∀ (H : Heap) (locs : List Loc), va_P D vwCl (ClW ox op xO xW xN xC xA xM xG xT xH xR xF xB xX ob oc oh hc hp ot yc yt cI cZ kn aO aW aN aC aA kS aM aG aT aH aR aF kF aB kT aX (nI n) f (nI q) zf zn co (nI b) td rg pa vl) H → va_D (wr_in (ClW ox op xO xW xN xC xA xM xG xT xH xR xF xB xX ob oc oh hc hp ot yc yt cI cZ kn aO aW aN aC aA kS aM aG aT aH aR aF kF aB kT aX (nI n) f (nI q) zf zn co (nI b) td rg pa vl)) (ClW ox op xO xW xN xC xA xM xG xT xH xR xF xB xX ob oc oh hc hp ot yc yt cI cZ kn aO aW aN aC aA kS aM aG aT aH aR aF kF aB kT aX (nI n) f (nI q) zf zn co (nI b) td rg pa vl) → va_S (wr_in (ClW ox op xO xW xN xC xA xM xG xT xH xR xF xB xX ob oc oh hc hp ot yc yt cI cZ kn aO aW aN aC aA kS aM aG aT aH aR aF kF aB kT aX (nI n) f (nI q) zf zn co (nI b) td rg pa vl)) s.heap H locs → wx_W p l e wsX4_read ({ frames := 6, cells := 1, slots := 6, locals := 123 } : Room) s m [.ref ox] below meth c D (ClW ox op xO xW xN xC xA xM xG xT xH xR xF xB xX ob oc oh hc hp ot yc yt cI cZ kn aO aW aN aC aA kS aM aG aT aH aR aF kF aB kT aX (nI n) f (nI q) zf zn co (nI b) td rg pa vl) (fun v w9 => ∃ (r9 : Int32) (A9 : AS), v = some (.int r9) ∧ spRead ((n, P), (q, hs), (b, co)) td = (0, r9, A9) ∧ ClP ox op xO xW xN xC xA xM xG xT xH xR xF xB xX ob oc oh hc hp ot yc yt cI cZ A9 w9) (fun E w9 => ((E = "java/lang/IllegalArgumentException" ∧ spRead ((n, P), (q, hs), (b, co)) td = (1, 0, ((n, P), (q, hs), (b, co))))) ∧ ClP ox op xO xW xN xC xA xM xG xT xH xR xF xB xX ob oc oh hc hp ot yc yt cI cZ ((n, P), (q, hs), (b, co)) w9) H locs (F0 m 0 ls []) from body _ _ hP hD hS
  clear hP hD hS
  intro H locs hP hD hS
  refine lv_aload_n hx hb dX4_read_0 rfl (lv_at hl 0 rfl) ?_
  refine va_get (D := D) (ci := 4) (v := .ref ot) (C := RX4) (T := TX4) (N := 4) hx hb hts hinX4 hown hK hP 0 rfl rfl 2 (by decide) hw26 (fun _ h9 => h9) rfl dX4_read_1 ?_
  refine wr_callV (As := []) (rest := []) ⟨hx, hb, hml, hown, hts⟩ (c_X3_scan l D hb60) (cwV 0 hts gX4_read_X3_scan rfl rfl rfl (by decide +kernel) ⟨by decide, by decide⟩) hK hN hZ hP hD hS [20, 21, 22] [0] rfl (by decide) rfl (q0 := 20) rfl rfl rfl hl.1 rfl (Nat.le_of_ble_eq_true rfl) ⟨by decide, by decide⟩ dX4_read_4 (fun v9 w9 H locs hp9 hP hD hS => ?_)
  obtain ⟨rfl, rfl⟩ := hp9
  have hP : va_P D vwCl (ClW ox op xO xW xN xC xA xM xG xT xH xR xF xB xX ob oc oh hc hp ot yc yt cI cZ kn aO aW aN aC aA kS aM aG aT aH aR aF kF aB kT aX (nI n) f (nI q) zf zn co (nI b) ((tyR co b 0 (tyIn td)).2.2.2.2.2) (nI ((tyR co b 0 (tyIn td)).2.2.1)) (nI ((tyR co b 0 (tyIn td)).2.2.2.1)) ((tyR co b 0 (tyIn td)).2.2.2.2.1)) H := hP
  have hD : va_D (wr_in (ClW ox op xO xW xN xC xA xM xG xT xH xR xF xB xX ob oc oh hc hp ot yc yt cI cZ kn aO aW aN aC aA kS aM aG aT aH aR aF kF aB kT aX (nI n) f (nI q) zf zn co (nI b) td rg pa vl)) (ClW ox op xO xW xN xC xA xM xG xT xH xR xF xB xX ob oc oh hc hp ot yc yt cI cZ kn aO aW aN aC aA kS aM aG aT aH aR aF kF aB kT aX (nI n) f (nI q) zf zn co (nI b) ((tyR co b 0 (tyIn td)).2.2.2.2.2) (nI ((tyR co b 0 (tyIn td)).2.2.1)) (nI ((tyR co b 0 (tyIn td)).2.2.2.1)) ((tyR co b 0 (tyIn td)).2.2.2.2.1)) := hD
  refine W.eq (g2 := F0 m 7 ls [.int (nI ((tyR co b 0 (tyIn td)).1))]) rfl ?_
  refine lv_aload_n hx hb dX4_read_7 rfl (lv_at hl 0 rfl) ?_
  refine va_get (D := D) (ci := 4) (v := .ref ot) (C := RX4) (T := TX4) (N := 4) hx hb hts hinX4 hown hK hP 0 rfl rfl 2 (by decide) hw26 (fun _ h9 => h9) rfl dX4_read_8 ?_
  refine va_get (D := D) (ci := 3) (v := .int (nI b)) (C := RX3) (T := TX3) (N := 6) hx hb hts hinX3 hown hK hP 20 rfl rfl 1 (by decide) hw143 (fun _ h9 => h9) rfl dX4_read_11 ?_
  have hTf := tyR_fin (bf := co) (b := b) (s := tyIn td)
  have hTb : (tyR co b 0 (tyIn td)).1 ≤ b := by rcases hTf with h | h <;> omega
  refine rd_icmp_lt_n (a := (tyR co b 0 (tyIn td)).1) (b := b) (tgt := 27) (by omega) (by omega) hx hb dX4_read_14 (by decide) (fun c_14 => ?_) (fun c_14 => ?_)
  · have c_14n := Nat.not_le.mpr c_14
    exact wx_throw (cls := "java/lang/IllegalArgumentException") (text := "the buffer does not tell points") (ik := 48) (is := 159) (ic := 52) hx hb hfl hown hlocks htab (hl.1.trans hml.symm) hT hP hS rfl (⟨⟨rfl, by unfold spRead; dsimp only; rw [if_neg (by rw [show (tyR co b 0 (tyIn td)).2.1 = false from by rcases hTf with h | h; (exfalso; omega); exact h.2]; exact Bool.false_ne_true)]⟩, _, _, _, _, _, _, _, _, _, _, _, _, _, _, _, _, _, _, _, _, _, _, _, _, hf, hh, rfl⟩) (by decide +kernel) (hts (.classLink RX4 48 "java/lang/IllegalArgumentException") (by decide +kernel)) (hts (.initialized "java/lang/IllegalArgumentException") (by decide +kernel)) (by decide) (fun w hw => hts w (List.mem_cons_of_mem _ (List.mem_append_right _ hw))) (by decide +kernel) hT.2.2.1.1 (by decide +kernel) dX4_read_27 dX4_read_30 dX4_read_31 dX4_read_33 dX4_read_36 (by decide) (by decide) (by decide) (by decide)
  · have c_14n := Nat.not_lt.mpr c_14
    refine lv_aload_n hx hb dX4_read_17 rfl (lv_at hl 0 rfl) ?_
    refine va_get (D := D) (ci := 4) (v := .ref ot) (C := RX4) (T := TX4) (N := 4) hx hb hts hinX4 hown hK hP 0 rfl rfl 2 (by decide) hw26 (fun _ h9 => h9) rfl dX4_read_18 ?_
    refine wr_callV (As := []) (rest := []) ⟨hx, hb, hml, hown, hts⟩ (c_X3_endsWithPoint (r := (tyR co b 0 (tyIn td)).2.2.1) l D tyR_b.2) (cwV 0 hts gX4_read_X3_endsWithPoint rfl rfl rfl (by decide +kernel) ⟨by decide, by decide⟩) hK hN hZ hP hD hS [20, 21, 22] [0] rfl (by decide) rfl (q0 := 20) rfl rfl rfl hl.1 rfl (Nat.le_of_ble_eq_true rfl) ⟨by decide, by decide⟩ dX4_read_21 (fun v9 w9 H locs hp9 hP hD hS => ?_)
    obtain ⟨rfl, rfl⟩ := hp9
    have hP : va_P D vwCl (ClW ox op xO xW xN xC xA xM xG xT xH xR xF xB xX ob oc oh hc hp ot yc yt cI cZ kn aO aW aN aC aA kS aM aG aT aH aR aF kF aB kT aX (nI n) f (nI q) zf zn co (nI b) ((tyR co b 0 (tyIn td)).2.2.2.2.2) (nI ((tyR co b 0 (tyIn td)).2.2.1)) (nI ((tyR co b 0 (tyIn td)).2.2.2.1)) ((tyR co b 0 (tyIn td)).2.2.2.2.1)) H := hP
    have hD : va_D (wr_in (ClW ox op xO xW xN xC xA xM xG xT xH xR xF xB xX ob oc oh hc hp ot yc yt cI cZ kn aO aW aN aC aA kS aM aG aT aH aR aF kF aB kT aX (nI n) f (nI q) zf zn co (nI b) td rg pa vl)) (ClW ox op xO xW xN xC xA xM xG xT xH xR xF xB xX ob oc oh hc hp ot yc yt cI cZ kn aO aW aN aC aA kS aM aG aT aH aR aF kF aB kT aX (nI n) f (nI q) zf zn co (nI b) ((tyR co b 0 (tyIn td)).2.2.2.2.2) (nI ((tyR co b 0 (tyIn td)).2.2.1)) (nI ((tyR co b 0 (tyIn td)).2.2.2.1)) ((tyR co b 0 (tyIn td)).2.2.2.2.1)) := hD
    refine W.eq (g2 := F0 m 24 ls [.int (bI (tyEnd (tyR co b 0 (tyIn td)).2.2))]) rfl ?_
    refine rd_ifne_b (tgt := 37) hx hb dX4_read_24 (by decide) (fun c_24 => ?_) (fun c_24 => ?_)
    · refine lv_aload_n hx hb dX4_read_37 rfl (lv_at hl 0 rfl) ?_
      refine va_get (D := D) (ci := 4) (v := .ref oh) (C := RX4) (T := TX4) (N := 4) hx hb hts hinX4 hown hK hP 0 rfl rfl 1 (by decide) hw19 (fun _ h9 => h9) rfl dX4_read_38 ?_
      refine lv_aload_n hx hb dX4_read_41 rfl (lv_at hl 0 rfl) ?_
      refine va_get (D := D) (ci := 4) (v := .ref ob) (C := RX4) (T := TX4) (N := 4) hx hb hts hinX4 hown hK hP 0 rfl rfl 0 (by decide) hw10 (fun _ h9 => h9) rfl dX4_read_42 ?_
      refine wr_callV (As := [.ref ob]) (rest := []) ⟨hx, hb, hml, hown, hts⟩ (c_X1_save l D (k := q) hq6) (cwV 1 hts gX4_read_X1_save rfl rfl rfl (by decide +kernel) ⟨by decide, by decide⟩) hK hN hZ hP hD hS [17, 18, 19, 15, 16] [0] rfl (by decide) rfl (q0 := 17) rfl rfl rfl hl.1 rfl (Nat.le_of_ble_eq_true rfl) ⟨by decide, by decide⟩ dX4_read_45 (fun v9 w9 H locs hp9 hP hD hS => ?_)
      obtain ⟨rfl, rfl⟩ := hp9
      have hP : va_P D vwCl (ClW ox op xO xW xN xC xA xM xG xT xH xR xF xB xX ob oc oh hc hp ot yc yt cI cZ kn aO aW aN aC aA kS aM aG aT aH aR aF kF aB kT aX (nI n) f (nI ((if q < 6 then q else 5) + 1)) (va_cpy f (if q < 6 then zf else va_cpy zf zf 48 0 240) 0 ((if q < 6 then q else 5) * 48) 48) (upd (if q < 6 then zn else va_cpy zn zn 1 0 5) (if q < 6 then q else 5) (nI n)) co (nI b) ((tyR co b 0 (tyIn td)).2.2.2.2.2) (nI ((tyR co b 0 (tyIn td)).2.2.1)) (nI ((tyR co b 0 (tyIn td)).2.2.2.1)) ((tyR co b 0 (tyIn td)).2.2.2.2.1)) H := hP
      have hD : va_D (wr_in (ClW ox op xO xW xN xC xA xM xG xT xH xR xF xB xX ob oc oh hc hp ot yc yt cI cZ kn aO aW aN aC aA kS aM aG aT aH aR aF kF aB kT aX (nI n) f (nI q) zf zn co (nI b) td rg pa vl)) (ClW ox op xO xW xN xC xA xM xG xT xH xR xF xB xX ob oc oh hc hp ot yc yt cI cZ kn aO aW aN aC aA kS aM aG aT aH aR aF kF aB kT aX (nI n) f (nI ((if q < 6 then q else 5) + 1)) (va_cpy f (if q < 6 then zf else va_cpy zf zf 48 0 240) 0 ((if q < 6 then q else 5) * 48) 48) (upd (if q < 6 then zn else va_cpy zn zn 1 0 5) (if q < 6 then q else 5) (nI n)) co (nI b) ((tyR co b 0 (tyIn td)).2.2.2.2.2) (nI ((tyR co b 0 (tyIn td)).2.2.1)) (nI ((tyR co b 0 (tyIn td)).2.2.2.1)) ((tyR co b 0 (tyIn td)).2.2.2.2.1)) := hD
      refine W.eq (g2 := F0 m 48 ls []) rfl ?_
      refine lv_aload_n hx hb dX4_read_48 rfl (lv_at hl 0 rfl) ?_
      refine wr_callVF (As := []) (rest := []) ⟨hx, hb, hml, hown, hts⟩ (c_X4_insertTold (P := P) l D tyR_b.1 hA.1 hf (told_rng c_24)) (cwV 0 hts gX4_read_X4_insertTold rfl rfl rfl (by decide +kernel) ⟨by decide, by decide⟩) hK hN hZ hP hD hS (q0 := 0) rfl rfl rfl hl.1 rfl (Nat.le_of_ble_eq_true rfl) ⟨by decide, by decide⟩ dX4_read_49 (fun v9 w9 H locs hp9 hP hD hS => ?_)
      obtain ⟨rfl, f9, hf9, rfl⟩ := hp9
      have hP : va_P D vwCl (ClW ox op xO xW xN xC xA xM xG xT xH xR xF xB xX ob oc oh hc hp ot yc yt cI cZ kn aO aW aN aC aA kS aM aG aT aH aR aF kF aB kT aX (nI ((mIq (tyR co b 0 (tyIn td)).2.2.2.2.2 ((tyR co b 0 (tyIn td)).2.2.1 + 1) 0 n P).2.1)) f9 (nI ((if q < 6 then q else 5) + 1)) (va_cpy f (if q < 6 then zf else va_cpy zf zf 48 0 240) 0 ((if q < 6 then q else 5) * 48) 48) (upd (if q < 6 then zn else va_cpy zn zn 1 0 5) (if q < 6 then q else 5) (nI n)) co (nI b) ((tyR co b 0 (tyIn td)).2.2.2.2.2) (nI ((tyR co b 0 (tyIn td)).2.2.1)) (nI ((tyR co b 0 (tyIn td)).2.2.2.1)) ((tyR co b 0 (tyIn td)).2.2.2.2.1)) H := hP
      have hD : va_D (wr_in (ClW ox op xO xW xN xC xA xM xG xT xH xR xF xB xX ob oc oh hc hp ot yc yt cI cZ kn aO aW aN aC aA kS aM aG aT aH aR aF kF aB kT aX (nI n) f (nI q) zf zn co (nI b) td rg pa vl)) (ClW ox op xO xW xN xC xA xM xG xT xH xR xF xB xX ob oc oh hc hp ot yc yt cI cZ kn aO aW aN aC aA kS aM aG aT aH aR aF kF aB kT aX (nI ((mIq (tyR co b 0 (tyIn td)).2.2.2.2.2 ((tyR co b 0 (tyIn td)).2.2.1 + 1) 0 n P).2.1)) f9 (nI ((if q < 6 then q else 5) + 1)) (va_cpy f (if q < 6 then zf else va_cpy zf zf 48 0 240) 0 ((if q < 6 then q else 5) * 48) 48) (upd (if q < 6 then zn else va_cpy zn zn 1 0 5) (if q < 6 then q else 5) (nI n)) co (nI b) ((tyR co b 0 (tyIn td)).2.2.2.2.2) (nI ((tyR co b 0 (tyIn td)).2.2.1)) (nI ((tyR co b 0 (tyIn td)).2.2.2.1)) ((tyR co b 0 (tyIn td)).2.2.2.2.1)) := hD
      refine W.eq (g2 := F0 m 52 ls [.int (nI ((mIq (tyR co b 0 (tyIn td)).2.2.2.2.2 ((tyR co b 0 (tyIn td)).2.2.1 + 1) 0 n P).1))]) rfl ?_
      refine lv_istore_n (lv' := [(1, .int (nI ((mIq (tyR co b 0 (tyIn td)).2.2.2.2.2 ((tyR co b 0 (tyIn td)).2.2.1 + 1) 0 n P).1))), (0, .ref ox)]) hx hb dX4_read_52 rfl hl (by decide) rfl (fun ls hl => ?_)
      refine lv_aload_n hx hb dX4_read_53 rfl (lv_at hl 1 rfl) ?_
      refine va_get (D := D) (ci := 4) (v := .ref ot) (C := RX4) (T := TX4) (N := 4) hx hb hts hinX4 hown hK hP 0 rfl rfl 2 (by decide) hw26 (fun _ h9 => h9) rfl dX4_read_54 ?_
      refine lv_iconst (v := 0) hx hb dX4_read_57 (by decide) ?_
      refine va_put (D := D) (ci := 3) (v := .int 0) (ty := .int) (C := RX3) (T := TX3) (N := 6) hx hb hts hinX3 tyX3 tyX3_ok nmX3 hown hK hP hD hS 20 rfl rfl 1 (by decide) hw143 (fun _ h9 => h9) rfl (by decide +kernel) rfl rfl (Nat.le_of_ble_eq_true rfl) dX4_read_58 (fun H locs hP hD hS => ?_)
      have hP : va_P D vwCl (ClW ox op xO xW xN xC xA xM xG xT xH xR xF xB xX ob oc oh hc hp ot yc yt cI cZ kn aO aW aN aC aA kS aM aG aT aH aR aF kF aB kT aX (nI ((mIq (tyR co b 0 (tyIn td)).2.2.2.2.2 ((tyR co b 0 (tyIn td)).2.2.1 + 1) 0 n P).2.1)) f9 (nI ((if q < 6 then q else 5) + 1)) (va_cpy f (if q < 6 then zf else va_cpy zf zf 48 0 240) 0 ((if q < 6 then q else 5) * 48) 48) (upd (if q < 6 then zn else va_cpy zn zn 1 0 5) (if q < 6 then q else 5) (nI n)) co 0 ((tyR co b 0 (tyIn td)).2.2.2.2.2) (nI ((tyR co b 0 (tyIn td)).2.2.1)) (nI ((tyR co b 0 (tyIn td)).2.2.2.1)) ((tyR co b 0 (tyIn td)).2.2.2.2.1)) H := hP
      have hD : va_D (wr_in (ClW ox op xO xW xN xC xA xM xG xT xH xR xF xB xX ob oc oh hc hp ot yc yt cI cZ kn aO aW aN aC aA kS aM aG aT aH aR aF kF aB kT aX (nI n) f (nI q) zf zn co (nI b) td rg pa vl)) (ClW ox op xO xW xN xC xA xM xG xT xH xR xF xB xX ob oc oh hc hp ot yc yt cI cZ kn aO aW aN aC aA kS aM aG aT aH aR aF kF aB kT aX (nI ((mIq (tyR co b 0 (tyIn td)).2.2.2.2.2 ((tyR co b 0 (tyIn td)).2.2.1 + 1) 0 n P).2.1)) f9 (nI ((if q < 6 then q else 5) + 1)) (va_cpy f (if q < 6 then zf else va_cpy zf zf 48 0 240) 0 ((if q < 6 then q else 5) * 48) 48) (upd (if q < 6 then zn else va_cpy zn zn 1 0 5) (if q < 6 then q else 5) (nI n)) co 0 ((tyR co b 0 (tyIn td)).2.2.2.2.2) (nI ((tyR co b 0 (tyIn td)).2.2.1)) (nI ((tyR co b 0 (tyIn td)).2.2.2.1)) ((tyR co b 0 (tyIn td)).2.2.2.2.1)) := hD
      refine lv_iload_n hx hb dX4_read_61 rfl (lv_at hl 0 rfl) ?_
      exact wx_iret hx hb hr hlocks hP hS rfl dX4_read_62 (by exact ⟨_, ((mIq (tyR co b 0 (tyIn td)).2.2.2.2.2 ((tyR co b 0 (tyIn td)).2.2.1 + 1) 0 n P).2, (svQ q + 1, svH q hs (n, P)), (0, co)), rfl, by unfold spRead; dsimp only; rw [if_pos (by rw [show (tyR co b 0 (tyIn td)).2.1 = true from by rcases hTf with h | h; exact h.2; (exfalso; omega), c_24]; rfl)], _, _, _, _, _, _, _, _, _, _, _, _, _, _, _, _, _, _, _, _, _, _, _, _, hf9, (clH_save hq6 hn8 hhs hh hf), rfl⟩)
    · exact wx_throw (cls := "java/lang/IllegalArgumentException") (text := "the buffer does not tell points") (ik := 48) (is := 159) (ic := 52) hx hb hfl hown hlocks htab (hl.1.trans hml.symm) hT hP hS rfl (⟨⟨rfl, by unfold spRead; dsimp only; rw [if_neg (by rw [c_24, Bool.and_false]; decide)]⟩, _, _, _, _, _, _, _, _, _, _, _, _, _, _, _, _, _, _, _, _, _, _, _, _, hf, hh, rfl⟩) (by decide +kernel) (hts (.classLink RX4 48 "java/lang/IllegalArgumentException") (by decide +kernel)) (hts (.initialized "java/lang/IllegalArgumentException") (by decide +kernel)) (by decide) (fun w hw => hts w (List.mem_cons_of_mem _ (List.mem_append_right _ hw))) (by decide +kernel) hT.2.2.1.1 (by decide +kernel) dX4_read_27 dX4_read_30 dX4_read_31 dX4_read_33 dX4_read_36 (by decide) (by decide) (by decide) (by decide)
set_option maxHeartbeats 4000000 in
set_option maxRecDepth 100000 in
theorem c_X4_undo (l : Launch) (hfl : l.stackTraces = false) (D : va_G) {ox op xO xW xN xC xA xM xG xT xH xR xF xB xX ob oc oh hc hp ot yc yt : Nat} {cI : ClassId} {cZ : ClassId} {n q b : Nat} {P : Nat → Nat → Int32} {kn kS kF kT rg pa vl : Int32} {aO aW aN aC aA aM aG aT aH aR aF aB aX f zf zn co td : Nat → Int32} {hs : Nat → BS} (hA : aOK ((n, P), (q, hs), (b, co))) (hf : clB n P f) (hh : clH q hs zf zn) : wx_M l yX4_undo wsX4_undo ({ frames := 6, cells := 1, slots := 6, locals := 82 } : Room) D (ClW ox op xO xW xN xC xA xM xG xT xH xR xF xB xX ob oc oh hc hp ot yc yt cI cZ kn aO aW aN aC aA kS aM aG aT aH aR aF kF aB kT aX (nI n) f (nI q) zf zn co (nI b) td rg pa vl) [(cI, .int), (cZ, .boolean)] [.ref ox] (fun v w9 => ∃ (r9 : Int32) (A9 : AS), v = some (.int r9) ∧ spUndo ((n, P), (q, hs), (b, co)) = (0, r9, A9) ∧ ClP ox op xO xW xN xC xA xM xG xT xH xR xF xB xX ob oc oh hc hp ot yc yt cI cZ A9 w9) (fun E w9 => ((E = "java/lang/IllegalStateException" ∧ spUndo ((n, P), (q, hs), (b, co)) = (1, 0, ((n, P), (q, hs), (b, co))))) ∧ ClP ox op xO xW xN xC xA xM xG xT xH xR xF xB xX ob oc oh hc hp ot yc yt cI cZ ((n, P), (q, hs), (b, co)) w9) := by
  have hn8 : n ≤ 8 := hA.1.1
  have hbk : bd_ok n P := hA.1.2.1
  have hgd : bd_gd n P := hA.1.2.2
  have hq6 : q ≤ 6 := hA.2.1
  have hhs : ∀ j, j < q → (hs j).1 ≤ 8 := fun j hj => (hA.2.2.1 j hj).1
  have hb60 : b ≤ 60 := hA.2.2.2
  refine wx_of (cc := cX4_undo) (maxL := 1) (ret := some .int) (by decide) rfl (Nat.le_of_ble_eq_true rfl) ?_
  intro p e s m below meth c hx hb hr hml hts hown hlocks htab hP hK hN hZ hT hD hS ls hl
  have hown : s.vm.findClass RX4 = some m.cls := hown
  have hl : lv_has ls 1 [(0, .ref ox)] := hl
  have hinX4 : ∀ w ∈ u_ws RX4 TX4 4, w ∈ wsX4_undo := by decide +kernel
  have hw19 := hts (.fieldLink RX4 19 "CornerLabels" "history" "LCornerLabels$History;") (by decide +kernel)
  have hinX1 : ∀ w ∈ u_ws RX1 TX1 3, w ∈ wsX4_undo := by decide +kernel
  have hw164 := hts (.fieldLink RX4 164 "CornerLabels$History" "states" "I") (by decide +kernel)
  have hw10 := hts (.fieldLink RX4 10 "CornerLabels" "board" "LCornerLabels$Board;") (by decide +kernel)
  suffices body : ∀ (H : Heap) (locs : List Loc), va_P D vwCl (ClW ox op xO xW xN xC xA xM xG xT xH xR xF xB xX ob oc oh hc hp ot yc yt cI cZ kn aO aW aN aC aA kS aM aG aT aH aR aF kF aB kT aX (nI n) f (nI q) zf zn co (nI b) td rg pa vl) H → va_D (wr_in (ClW ox op xO xW xN xC xA xM xG xT xH xR xF xB xX ob oc oh hc hp ot yc yt cI cZ kn aO aW aN aC aA kS aM aG aT aH aR aF kF aB kT aX (nI n) f (nI q) zf zn co (nI b) td rg pa vl)) (ClW ox op xO xW xN xC xA xM xG xT xH xR xF xB xX ob oc oh hc hp ot yc yt cI cZ kn aO aW aN aC aA kS aM aG aT aH aR aF kF aB kT aX (nI n) f (nI q) zf zn co (nI b) td rg pa vl) → va_S (wr_in (ClW ox op xO xW xN xC xA xM xG xT xH xR xF xB xX ob oc oh hc hp ot yc yt cI cZ kn aO aW aN aC aA kS aM aG aT aH aR aF kF aB kT aX (nI n) f (nI q) zf zn co (nI b) td rg pa vl)) s.heap H locs → wx_W p l e wsX4_undo ({ frames := 6, cells := 1, slots := 6, locals := 82 } : Room) s m [.ref ox] below meth c D (ClW ox op xO xW xN xC xA xM xG xT xH xR xF xB xX ob oc oh hc hp ot yc yt cI cZ kn aO aW aN aC aA kS aM aG aT aH aR aF kF aB kT aX (nI n) f (nI q) zf zn co (nI b) td rg pa vl) (fun v w9 => ∃ (r9 : Int32) (A9 : AS), v = some (.int r9) ∧ spUndo ((n, P), (q, hs), (b, co)) = (0, r9, A9) ∧ ClP ox op xO xW xN xC xA xM xG xT xH xR xF xB xX ob oc oh hc hp ot yc yt cI cZ A9 w9) (fun E w9 => ((E = "java/lang/IllegalStateException" ∧ spUndo ((n, P), (q, hs), (b, co)) = (1, 0, ((n, P), (q, hs), (b, co))))) ∧ ClP ox op xO xW xN xC xA xM xG xT xH xR xF xB xX ob oc oh hc hp ot yc yt cI cZ ((n, P), (q, hs), (b, co)) w9) H locs (F0 m 0 ls []) from body _ _ hP hD hS
  clear hP hD hS
  intro H locs hP hD hS
  refine lv_aload_n hx hb dX4_undo_0 rfl (lv_at hl 0 rfl) ?_
  refine va_get (D := D) (ci := 4) (v := .ref oh) (C := RX4) (T := TX4) (N := 4) hx hb hts hinX4 hown hK hP 0 rfl rfl 1 (by decide) hw19 (fun _ h9 => h9) rfl dX4_undo_1 ?_
  refine va_get (D := D) (ci := 1) (v := .int (nI q)) (C := RX1) (T := TX1) (N := 3) hx hb hts hinX1 hown hK hP 17 rfl rfl 2 (by decide) hw164 (fun _ h9 => h9) rfl dX4_undo_4 ?_
  refine lv_if_ne (tgt := 20) hx hb dX4_undo_7 (by decide) (fun c_7 => ?_) (fun c_7 => ?_)
  · have c_7n := nI0_ne c_7
    refine lv_aload_n hx hb dX4_undo_20 rfl (lv_at hl 0 rfl) ?_
    refine va_get (D := D) (ci := 4) (v := .ref oh) (C := RX4) (T := TX4) (N := 4) hx hb hts hinX4 hown hK hP 0 rfl rfl 1 (by decide) hw19 (fun _ h9 => h9) rfl dX4_undo_21 ?_
    refine lv_aload_n hx hb dX4_undo_24 rfl (lv_at hl 0 rfl) ?_
    refine va_get (D := D) (ci := 4) (v := .ref ob) (C := RX4) (T := TX4) (N := 4) hx hb hts hinX4 hown hK hP 0 rfl rfl 0 (by decide) hw10 (fun _ h9 => h9) rfl dX4_undo_25 ?_
    refine wr_callV (As := [.ref ob]) (rest := []) ⟨hx, hb, hml, hown, hts⟩ (c_X1_restore2 (k := q) (n := n) l D (by omega) hq6) (cwV 1 hts gX4_undo_X1_restore rfl rfl rfl (by decide +kernel) ⟨by decide, by decide⟩) hK hN hZ hP hD hS [17, 18, 19, 15, 16] [0] rfl (by decide) rfl (q0 := 17) rfl rfl rfl hl.1 rfl (Nat.le_of_ble_eq_true rfl) ⟨by decide, by decide⟩ dX4_undo_28 (fun v9 w9 H locs hp9 hP hD hS => ?_)
    obtain ⟨rfl, rfl⟩ := hp9
    have hP : va_P D vwCl (ClW ox op xO xW xN xC xA xM xG xT xH xR xF xB xX ob oc oh hc hp ot yc yt cI cZ kn aO aW aN aC aA kS aM aG aT aH aR aF kF aB kT aX (zn (q - 1)) (va_cpy zf f ((q - 1) * 48) 0 48) (nI (q - 1)) zf zn co (nI b) td rg pa vl) H := hP
    have hD : va_D (wr_in (ClW ox op xO xW xN xC xA xM xG xT xH xR xF xB xX ob oc oh hc hp ot yc yt cI cZ kn aO aW aN aC aA kS aM aG aT aH aR aF kF aB kT aX (nI n) f (nI q) zf zn co (nI b) td rg pa vl)) (ClW ox op xO xW xN xC xA xM xG xT xH xR xF xB xX ob oc oh hc hp ot yc yt cI cZ kn aO aW aN aC aA kS aM aG aT aH aR aF kF aB kT aX (zn (q - 1)) (va_cpy zf f ((q - 1) * 48) 0 48) (nI (q - 1)) zf zn co (nI b) td rg pa vl) := hD
    refine W.eq (g2 := F0 m 31 ls []) rfl ?_
    have en : zn (q - 1) = nI (hs (q - 1)).1 := (hh (q - 1) (by omega)).1
    rw [en] at hP hD
    have hP : va_P D vwCl (ClW ox op xO xW xN xC xA xM xG xT xH xR xF xB xX ob oc oh hc hp ot yc yt cI cZ kn aO aW aN aC aA kS aM aG aT aH aR aF kF aB kT aX (nI ((hs (q - 1)).1)) (va_cpy zf f ((q - 1) * 48) 0 48) (nI (q - 1)) zf zn co (nI b) td rg pa vl) H := hP
    have hD : va_D (wr_in (ClW ox op xO xW xN xC xA xM xG xT xH xR xF xB xX ob oc oh hc hp ot yc yt cI cZ kn aO aW aN aC aA kS aM aG aT aH aR aF kF aB kT aX (nI n) f (nI q) zf zn co (nI b) td rg pa vl)) (ClW ox op xO xW xN xC xA xM xG xT xH xR xF xB xX ob oc oh hc hp ot yc yt cI cZ kn aO aW aN aC aA kS aM aG aT aH aR aF kF aB kT aX (nI ((hs (q - 1)).1)) (va_cpy zf f ((q - 1) * 48) 0 48) (nI (q - 1)) zf zn co (nI b) td rg pa vl) := hD
    refine lv_aload_n hx hb dX4_undo_31 rfl (lv_at hl 0 rfl) ?_
    refine va_get (D := D) (ci := 4) (v := .ref oh) (C := RX4) (T := TX4) (N := 4) hx hb hts hinX4 hown hK hP 0 rfl rfl 1 (by decide) hw19 (fun _ h9 => h9) rfl dX4_undo_32 ?_
    refine va_get (D := D) (ci := 1) (v := .int (nI (q - 1))) (C := RX1) (T := TX1) (N := 3) hx hb hts hinX1 hown hK hP 17 rfl rfl 2 (by decide) hw164 (fun _ h9 => h9) rfl dX4_undo_35 ?_
    exact wx_iret hx hb hr hlocks hP hS rfl dX4_undo_38 (by exact ⟨_, (hs (q - 1), (q - 1, hs), (b, co)), rfl, by unfold spUndo; dsimp only; rw [if_neg c_7n], _, _, _, _, _, _, _, _, _, _, _, _, _, _, _, _, _, _, _, _, _, _, _, _, (clB_rest hh (by omega) (hhs (q - 1) (by omega))), (fun j hj => hh j (by have h9 : j < q - 1 := hj; omega)), rfl⟩)
  · have c_7n := nI0_eq (by omega) c_7
    exact wx_throw (cls := "java/lang/IllegalStateException") (text := "there is no saved state") (ik := 58) (is := 167) (ic := 62) hx hb hfl hown hlocks htab (hl.1.trans hml.symm) hT hP hS rfl (⟨⟨rfl, by unfold spUndo; dsimp only; rw [if_pos c_7n]⟩, _, _, _, _, _, _, _, _, _, _, _, _, _, _, _, _, _, _, _, _, _, _, _, _, hf, hh, rfl⟩) (by decide +kernel) (hts (.classLink RX4 58 "java/lang/IllegalStateException") (by decide +kernel)) (hts (.initialized "java/lang/IllegalStateException") (by decide +kernel)) (by decide) (fun w hw => hts w (List.mem_cons_of_mem _ (List.mem_append_right _ hw))) (by decide +kernel) hT.2.2.1.2.1 (by decide +kernel) dX4_undo_10 dX4_undo_13 dX4_undo_14 dX4_undo_16 dX4_undo_19 (by decide) (by decide) (by decide) (by decide)
set_option maxHeartbeats 4000000 in
set_option maxRecDepth 100000 in
theorem c_X4_push (l : Launch) (hfl : l.stackTraces = false) (D : va_G) {ox op xO xW xN xC xA xM xG xT xH xR xF xB xX ob oc oh hc hp ot yc yt : Nat} {cI : ClassId} {cZ : ClassId} {n q b : Nat} {P : Nat → Nat → Int32} {kn kS kF kT rg pa vl : Int32} {aO aW aN aC aA aM aG aT aH aR aF aB aX f zf zn co td : Nat → Int32} {hs : Nat → BS} (hA : aOK ((n, P), (q, hs), (b, co))) (hf : clB n P f) (hh : clH q hs zf zn) (x : Int32) : wx_M l yX4_push wsX4_push ({ frames := 13, cells := 1, slots := 6, locals := 370 } : Room) D (ClW ox op xO xW xN xC xA xM xG xT xH xR xF xB xX ob oc oh hc hp ot yc yt cI cZ kn aO aW aN aC aA kS aM aG aT aH aR aF kF aB kT aX (nI n) f (nI q) zf zn co (nI b) td rg pa vl) [(cI, .int), (cZ, .boolean)] [.ref ox, .int x] (fun v w9 => ∃ (r9 : Int32) (A9 : AS), v = some (.int r9) ∧ spPush ((n, P), (q, hs), (b, co)) x = (0, r9, A9) ∧ ClP ox op xO xW xN xC xA xM xG xT xH xR xF xB xX ob oc oh hc hp ot yc yt cI cZ A9 w9) (fun E w9 => ((E = "java/lang/IndexOutOfBoundsException" ∧ spPush ((n, P), (q, hs), (b, co)) x = (1, 0, ((n, P), (q, hs), (b, co)))) ∨ (E = "java/lang/IllegalStateException" ∧ spPush ((n, P), (q, hs), (b, co)) x = (2, 0, ((n, P), (q, hs), (b, co))))) ∧ ClP ox op xO xW xN xC xA xM xG xT xH xR xF xB xX ob oc oh hc hp ot yc yt cI cZ ((n, P), (q, hs), (b, co)) w9) := by
  have hn8 : n ≤ 8 := hA.1.1
  have hbk : bd_ok n P := hA.1.2.1
  have hgd : bd_gd n P := hA.1.2.2
  have hq6 : q ≤ 6 := hA.2.1
  have hhs : ∀ j, j < q → (hs j).1 ≤ 8 := fun j hj => (hA.2.2.1 j hj).1
  have hb60 : b ≤ 60 := hA.2.2.2
  refine wx_of (cc := cX4_push) (maxL := 3) (ret := some .int) (by decide) rfl (Nat.le_of_ble_eq_true rfl) ?_
  intro p e s m below meth c hx hb hr hml hts hown hlocks htab hP hK hN hZ hT hD hS ls hl
  have hown : s.vm.findClass RX4 = some m.cls := hown
  have hl : lv_has ls 3 [(0, .ref ox), (1, .int x)] := hl
  have hinX4 : ∀ w ∈ u_ws RX4 TX4 4, w ∈ wsX4_push := by decide +kernel
  have hw10 := hts (.fieldLink RX4 10 "CornerLabels" "board" "LCornerLabels$Board;") (by decide +kernel)
  have hw33 := hts (.fieldLink RX4 33 "CornerLabels" "plans" "LCornerLabels$Plans;") (by decide +kernel)
  have hw19 := hts (.fieldLink RX4 19 "CornerLabels" "history" "LCornerLabels$History;") (by decide +kernel)
  suffices body : ∀ (H : Heap) (locs : List Loc), va_P D vwCl (ClW ox op xO xW xN xC xA xM xG xT xH xR xF xB xX ob oc oh hc hp ot yc yt cI cZ kn aO aW aN aC aA kS aM aG aT aH aR aF kF aB kT aX (nI n) f (nI q) zf zn co (nI b) td rg pa vl) H → va_D (wr_in (ClW ox op xO xW xN xC xA xM xG xT xH xR xF xB xX ob oc oh hc hp ot yc yt cI cZ kn aO aW aN aC aA kS aM aG aT aH aR aF kF aB kT aX (nI n) f (nI q) zf zn co (nI b) td rg pa vl)) (ClW ox op xO xW xN xC xA xM xG xT xH xR xF xB xX ob oc oh hc hp ot yc yt cI cZ kn aO aW aN aC aA kS aM aG aT aH aR aF kF aB kT aX (nI n) f (nI q) zf zn co (nI b) td rg pa vl) → va_S (wr_in (ClW ox op xO xW xN xC xA xM xG xT xH xR xF xB xX ob oc oh hc hp ot yc yt cI cZ kn aO aW aN aC aA kS aM aG aT aH aR aF kF aB kT aX (nI n) f (nI q) zf zn co (nI b) td rg pa vl)) s.heap H locs → wx_W p l e wsX4_push ({ frames := 13, cells := 1, slots := 6, locals := 370 } : Room) s m [.ref ox, .int x] below meth c D (ClW ox op xO xW xN xC xA xM xG xT xH xR xF xB xX ob oc oh hc hp ot yc yt cI cZ kn aO aW aN aC aA kS aM aG aT aH aR aF kF aB kT aX (nI n) f (nI q) zf zn co (nI b) td rg pa vl) (fun v w9 => ∃ (r9 : Int32) (A9 : AS), v = some (.int r9) ∧ spPush ((n, P), (q, hs), (b, co)) x = (0, r9, A9) ∧ ClP ox op xO xW xN xC xA xM xG xT xH xR xF xB xX ob oc oh hc hp ot yc yt cI cZ A9 w9) (fun E w9 => ((E = "java/lang/IndexOutOfBoundsException" ∧ spPush ((n, P), (q, hs), (b, co)) x = (1, 0, ((n, P), (q, hs), (b, co)))) ∨ (E = "java/lang/IllegalStateException" ∧ spPush ((n, P), (q, hs), (b, co)) x = (2, 0, ((n, P), (q, hs), (b, co))))) ∧ ClP ox op xO xW xN xC xA xM xG xT xH xR xF xB xX ob oc oh hc hp ot yc yt cI cZ ((n, P), (q, hs), (b, co)) w9) H locs (F0 m 0 ls []) from body _ _ hP hD hS
  clear hP hD hS
  intro H locs hP hD hS
  refine lv_aload_n hx hb dX4_push_0 rfl (lv_at hl 0 rfl) ?_
  refine va_get (D := D) (ci := 4) (v := .ref ob) (C := RX4) (T := TX4) (N := 4) hx hb hts hinX4 hown hK hP 0 rfl rfl 0 (by decide) hw10 (fun _ h9 => h9) rfl dX4_push_1 ?_
  refine lv_iload_n hx hb dX4_push_4 rfl (lv_at hl 1 rfl) ?_
  have hbd : bd_in (ClW ox op xO xW xN xC xA xM xG xT xH xR xF xB xX ob oc oh hc hp ot yc yt cI cZ kn aO aW aN aC aA kS aM aG aT aH aR aF kF aB kT aX (nI n) f (nI q) zf zn co (nI b) td rg pa vl) [(cI, .int), (cZ, .boolean)] ob n P := ⟨15, 16, 0, oc, cI, f, rfl, rfl, rfl, hn8, hf⟩
  refine rd_callV (As := [.int x]) (rest := []) ⟨hx, hb, hml, hown, hts⟩ (c_X0_has l D hbd x) (cwV 1 hts gX4_push_X0_has rfl rfl rfl (by decide +kernel) ⟨by decide, by decide⟩) hK hN hP (q0 := 15) rfl rfl rfl hl.1 rfl (Nat.le_of_ble_eq_true rfl) ⟨by decide, by decide⟩ dX4_push_5 ?_
  refine rd_ifne_b (tgt := 21) hx hb dX4_push_8 (by decide) (fun c_8 => ?_) (fun c_8 => ?_)
  · obtain ⟨i, hi, ei⟩ := (gHas_iff hn8).mp c_8
    rw [ei] at hl
    have hl : lv_has ls 3 [(0, .ref ox), (1, .int (nI i))] := hl
    refine lv_aload_n hx hb dX4_push_21 rfl (lv_at hl 0 rfl) ?_
    refine va_get (D := D) (ci := 4) (v := .ref op) (C := RX4) (T := TX4) (N := 4) hx hb hts hinX4 hown hK hP 0 rfl rfl 3 (by decide) hw33 (fun _ h9 => h9) rfl dX4_push_22 ?_
    refine lv_aload_n hx hb dX4_push_25 rfl (lv_at hl 0 rfl) ?_
    refine va_get (D := D) (ci := 4) (v := .ref ob) (C := RX4) (T := TX4) (N := 4) hx hb hts hinX4 hown hK hP 0 rfl rfl 0 (by decide) hw10 (fun _ h9 => h9) rfl dX4_push_26 ?_
    refine wr_callV (As := [.ref ob]) (rest := []) ⟨hx, hb, hml, hown, hts⟩ (c_X2_look (P := P) l D hn8 hf) (cwV 1 hts gX4_push_X2_look rfl rfl rfl (by decide +kernel) ⟨by decide, by decide⟩) hK hN hZ hP hD hS [1, 2, 3, 4, 5, 6, 7, 8, 9, 10, 11, 12, 13, 14, 15, 16] [0, 1] rfl (by decide) rfl (q0 := 1) rfl rfl rfl hl.1 rfl (Nat.le_of_ble_eq_true rfl) ⟨by decide, by decide⟩ dX4_push_29 (fun v9 w9 H locs hp9 hP hD hS => ?_)
    obtain ⟨aO_29, aW_29, aN_29, aC_29, hO_29, hC_29, rfl, rfl⟩ := hp9
    have hP : va_P D vwCl (ClW ox op xO xW xN xC xA xM xG xT xH xR xF xB xX ob oc oh hc hp ot yc yt cI cZ (nI n) aO_29 aW_29 aN_29 aC_29 aA kS aM aG aT aH aR aF kF aB kT aX (nI n) f (nI q) zf zn co (nI b) td rg pa vl) H := hP
    have hD : va_D (wr_in (ClW ox op xO xW xN xC xA xM xG xT xH xR xF xB xX ob oc oh hc hp ot yc yt cI cZ kn aO aW aN aC aA kS aM aG aT aH aR aF kF aB kT aX (nI n) f (nI q) zf zn co (nI b) td rg pa vl)) (ClW ox op xO xW xN xC xA xM xG xT xH xR xF xB xX ob oc oh hc hp ot yc yt cI cZ (nI n) aO_29 aW_29 aN_29 aC_29 aA kS aM aG aT aH aR aF kF aB kT aX (nI n) f (nI q) zf zn co (nI b) td rg pa vl) := hD
    refine W.eq (g2 := F0 m 32 ls []) rfl ?_
    refine lv_aload_n hx hb dX4_push_32 rfl (lv_at hl 0 rfl) ?_
    refine va_get (D := D) (ci := 4) (v := .ref op) (C := RX4) (T := TX4) (N := 4) hx hb hts hinX4 hown hK hP 0 rfl rfl 3 (by decide) hw33 (fun _ h9 => h9) rfl dX4_push_33 ?_
    refine lv_iload_n hx hb dX4_push_36 rfl (lv_at hl 1 rfl) ?_
    refine wr_callV (As := [.int (nI i)]) (rest := []) ⟨hx, hb, hml, hown, hts⟩ (c_X2_room2 l D hn8 hbk hO_29 hC_29 hi) (cwV 1 hts gX4_push_X2_findRoom rfl rfl rfl (by decide +kernel) ⟨by decide, by decide⟩) hK hN hZ hP hD hS [1, 2, 3, 4, 5, 6, 7, 8, 9, 10, 11, 12, 13, 14, 15, 16] [0, 1] rfl (by decide) rfl (q0 := 1) rfl rfl rfl hl.1 rfl (Nat.le_of_ble_eq_true rfl) ⟨by decide, by decide⟩ dX4_push_37 (fun v9 w9 H locs hp9 hP hD hS => ?_)
    obtain ⟨kS_37, kF_37, aA_37, aM_37, aG_37, aT_37, aH_37, aR_37, aF_37, hrm_37, rfl, rfl⟩ := hp9
    have hP : va_P D vwCl (ClW ox op xO xW xN xC xA xM xG xT xH xR xF xB xX ob oc oh hc hp ot yc yt cI cZ (nI n) aO_29 aW_29 aN_29 aC_29 aA_37 kS_37 aM_37 aG_37 aT_37 aH_37 aR_37 aF_37 kF_37 aB kT aX (nI n) f (nI q) zf zn co (nI b) td rg pa vl) H := hP
    have hD : va_D (wr_in (ClW ox op xO xW xN xC xA xM xG xT xH xR xF xB xX ob oc oh hc hp ot yc yt cI cZ kn aO aW aN aC aA kS aM aG aT aH aR aF kF aB kT aX (nI n) f (nI q) zf zn co (nI b) td rg pa vl)) (ClW ox op xO xW xN xC xA xM xG xT xH xR xF xB xX ob oc oh hc hp ot yc yt cI cZ (nI n) aO_29 aW_29 aN_29 aC_29 aA_37 kS_37 aM_37 aG_37 aT_37 aH_37 aR_37 aF_37 kF_37 aB kT aX (nI n) f (nI q) zf zn co (nI b) td rg pa vl) := hD
    refine W.eq (g2 := F0 m 40 ls [.int (mMr n P i (fun _ => 0))]) rfl ?_
    refine lv_istore_n (lv' := [(2, .int (mMr n P i (fun _ => 0))), (0, .ref ox), (1, .int (nI i))]) hx hb dX4_push_40 rfl hl (by decide) rfl (fun ls hl => ?_)
    refine lv_iload_n hx hb dX4_push_41 rfl (lv_at hl 0 rfl) ?_
    refine lv_iconst (v := (-1)) hx hb dX4_push_42 (by decide) ?_
    refine lv_icmp_ne (tgt := 56) hx hb dX4_push_43 (by decide) (fun c_43 => ?_) (fun c_43 => ?_)
    · refine lv_aload_n hx hb dX4_push_56 rfl (lv_at hl 1 rfl) ?_
      refine va_get (D := D) (ci := 4) (v := .ref oh) (C := RX4) (T := TX4) (N := 4) hx hb hts hinX4 hown hK hP 0 rfl rfl 1 (by decide) hw19 (fun _ h9 => h9) rfl dX4_push_57 ?_
      refine lv_aload_n hx hb dX4_push_60 rfl (lv_at hl 1 rfl) ?_
      refine va_get (D := D) (ci := 4) (v := .ref ob) (C := RX4) (T := TX4) (N := 4) hx hb hts hinX4 hown hK hP 0 rfl rfl 0 (by decide) hw10 (fun _ h9 => h9) rfl dX4_push_61 ?_
      refine wr_callV (As := [.ref ob]) (rest := []) ⟨hx, hb, hml, hown, hts⟩ (c_X1_save l D (k := q) hq6) (cwV 1 hts gX4_push_X1_save rfl rfl rfl (by decide +kernel) ⟨by decide, by decide⟩) hK hN hZ hP hD hS [17, 18, 19, 15, 16] [0] rfl (by decide) rfl (q0 := 17) rfl rfl rfl hl.1 rfl (Nat.le_of_ble_eq_true rfl) ⟨by decide, by decide⟩ dX4_push_64 (fun v9 w9 H locs hp9 hP hD hS => ?_)
      obtain ⟨rfl, rfl⟩ := hp9
      have hP : va_P D vwCl (ClW ox op xO xW xN xC xA xM xG xT xH xR xF xB xX ob oc oh hc hp ot yc yt cI cZ (nI n) aO_29 aW_29 aN_29 aC_29 aA_37 kS_37 aM_37 aG_37 aT_37 aH_37 aR_37 aF_37 kF_37 aB kT aX (nI n) f (nI ((if q < 6 then q else 5) + 1)) (va_cpy f (if q < 6 then zf else va_cpy zf zf 48 0 240) 0 ((if q < 6 then q else 5) * 48) 48) (upd (if q < 6 then zn else va_cpy zn zn 1 0 5) (if q < 6 then q else 5) (nI n)) co (nI b) td rg pa vl) H := hP
      have hD : va_D (wr_in (ClW ox op xO xW xN xC xA xM xG xT xH xR xF xB xX ob oc oh hc hp ot yc yt cI cZ kn aO aW aN aC aA kS aM aG aT aH aR aF kF aB kT aX (nI n) f (nI q) zf zn co (nI b) td rg pa vl)) (ClW ox op xO xW xN xC xA xM xG xT xH xR xF xB xX ob oc oh hc hp ot yc yt cI cZ (nI n) aO_29 aW_29 aN_29 aC_29 aA_37 kS_37 aM_37 aG_37 aT_37 aH_37 aR_37 aF_37 kF_37 aB kT aX (nI n) f (nI ((if q < 6 then q else 5) + 1)) (va_cpy f (if q < 6 then zf else va_cpy zf zf 48 0 240) 0 ((if q < 6 then q else 5) * 48) 48) (upd (if q < 6 then zn else va_cpy zn zn 1 0 5) (if q < 6 then q else 5) (nI n)) co (nI b) td rg pa vl) := hD
      refine W.eq (g2 := F0 m 67 ls []) rfl ?_
      refine lv_aload_n hx hb dX4_push_67 rfl (lv_at hl 1 rfl) ?_
      refine wr_callVF (As := []) (rest := []) ⟨hx, hb, hml, hown, hts⟩ (c_X4_putLabelsAsFound (P := P) l D hn8 hf (mRm n P i (fun _ => 0)).2 (hrm_37 c_43)) (cwV 0 hts gX4_push_X4_putLabelsAsFound rfl rfl rfl (by decide +kernel) ⟨by decide, by decide⟩) hK hN hZ hP hD hS (q0 := 0) rfl rfl rfl hl.1 rfl (Nat.le_of_ble_eq_true rfl) ⟨by decide, by decide⟩ dX4_push_68 (fun v9 w9 H locs hp9 hP hD hS => ?_)
      obtain ⟨rfl, f9, hf9, rfl⟩ := hp9
      have hP : va_P D vwCl (ClW ox op xO xW xN xC xA xM xG xT xH xR xF xB xX ob oc oh hc hp ot yc yt cI cZ (nI n) aO_29 aW_29 aN_29 aC_29 aA_37 kS_37 aM_37 aG_37 aT_37 aH_37 aR_37 aF_37 kF_37 aB kT aX (nI n) f9 (nI ((if q < 6 then q else 5) + 1)) (va_cpy f (if q < 6 then zf else va_cpy zf zf 48 0 240) 0 ((if q < 6 then q else 5) * 48) 48) (upd (if q < 6 then zn else va_cpy zn zn 1 0 5) (if q < 6 then q else 5) (nI n)) co (nI b) td rg pa vl) H := hP
      have hD : va_D (wr_in (ClW ox op xO xW xN xC xA xM xG xT xH xR xF xB xX ob oc oh hc hp ot yc yt cI cZ kn aO aW aN aC aA kS aM aG aT aH aR aF kF aB kT aX (nI n) f (nI q) zf zn co (nI b) td rg pa vl)) (ClW ox op xO xW xN xC xA xM xG xT xH xR xF xB xX ob oc oh hc hp ot yc yt cI cZ (nI n) aO_29 aW_29 aN_29 aC_29 aA_37 kS_37 aM_37 aG_37 aT_37 aH_37 aR_37 aF_37 kF_37 aB kT aX (nI n) f9 (nI ((if q < 6 then q else 5) + 1)) (va_cpy f (if q < 6 then zf else va_cpy zf zf 48 0 240) 0 ((if q < 6 then q else 5) * 48) 48) (upd (if q < 6 then zn else va_cpy zn zn 1 0 5) (if q < 6 then q else 5) (nI n)) co (nI b) td rg pa vl) := hD
      refine W.eq (g2 := F0 m 71 ls []) rfl ?_
      refine lv_iload_n hx hb dX4_push_71 rfl (lv_at hl 0 rfl) ?_
      exact wx_iret hx hb hr hlocks hP hS rfl dX4_push_72 (by exact ⟨_, aPut (n, mLy P (mRm n P i (fun _ => 0)).2) ((n, P), (q, hs), (b, co)), rfl, by unfold spPush; dsimp only; rw [if_pos c_8, ei, ix_n (by omega), if_neg c_43], _, _, _, _, _, _, _, _, _, _, _, _, _, _, _, _, _, _, _, _, _, _, _, _, hf9, (clH_save hq6 hn8 hhs hh hf), rfl⟩)
    · exact wx_throw (cls := "java/lang/IllegalStateException") (text := "the label stands, or there is no room") (ik := 58) (is := 132) (ic := 62) hx hb hfl hown hlocks htab (hl.1.trans hml.symm) hT hP hS rfl (⟨Or.inr (⟨rfl, by unfold spPush; dsimp only; rw [if_pos c_8, ei, ix_n (by omega), if_pos c_43]⟩), _, _, _, _, _, _, _, _, _, _, _, _, _, _, _, _, _, _, _, _, _, _, _, _, hf, hh, rfl⟩) (by decide +kernel) (hts (.classLink RX4 58 "java/lang/IllegalStateException") (by decide +kernel)) (hts (.initialized "java/lang/IllegalStateException") (by decide +kernel)) (by decide) (fun w hw => hts w (List.mem_cons_of_mem _ (List.mem_append_right _ hw))) (by decide +kernel) hT.2.2.1.2.1 (by decide +kernel) dX4_push_46 dX4_push_49 dX4_push_50 dX4_push_52 dX4_push_55 (by decide) (by decide) (by decide) (by decide)
  · exact wx_throw (cls := "java/lang/IndexOutOfBoundsException") (text := "no such point") (ik := 74) (is := 76) (ic := 78) hx hb hfl hown hlocks htab (hl.1.trans hml.symm) hT hP hS rfl (⟨Or.inl ⟨rfl, by unfold spPush; dsimp only; rw [if_neg (bF c_8)]⟩, _, _, _, _, _, _, _, _, _, _, _, _, _, _, _, _, _, _, _, _, _, _, _, _, hf, hh, rfl⟩) (by decide +kernel) (hts (.classLink RX4 74 "java/lang/IndexOutOfBoundsException") (by decide +kernel)) (hts (.initialized "java/lang/IndexOutOfBoundsException") (by decide +kernel)) (by decide) (fun w hw => hts w (List.mem_cons_of_mem _ (List.mem_append_left _ (List.mem_append_right _ hw)))) (by decide +kernel) hT.2.2.1.2.2.1 (by decide +kernel) dX4_push_11 dX4_push_14 dX4_push_15 dX4_push_17 dX4_push_20 (by decide) (by decide) (by decide) (by decide)
set_option maxHeartbeats 4000000 in
set_option maxRecDepth 100000 in
theorem c_X4_solve (l : Launch) (D : va_G) {ox op xO xW xN xC xA xM xG xT xH xR xF xB xX ob oc oh hc hp ot yc yt : Nat} {cI : ClassId} {cZ : ClassId} {n q b : Nat} {P : Nat → Nat → Int32} {kn kS kF kT rg pa vl : Int32} {aO aW aN aC aA aM aG aT aH aR aF aB aX f zf zn co td : Nat → Int32} {hs : Nat → BS} (hA : aOK ((n, P), (q, hs), (b, co))) (hf : clB n P f) (hh : clH q hs zf zn) : wr_M l yX4_solve wsX4_solve ({ frames := 13, cells := 0, slots := 0, locals := 368 } : Room) D (ClW ox op xO xW xN xC xA xM xG xT xH xR xF xB xX ob oc oh hc hp ot yc yt cI cZ kn aO aW aN aC aA kS aM aG aT aH aR aF kF aB kT aX (nI n) f (nI q) zf zn co (nI b) td rg pa vl) [(cI, .int), (cZ, .boolean)] [.ref ox] (fun v w9 => ∃ (r9 : Int32) (A9 : AS), v = some (.int r9) ∧ spSolve ((n, P), (q, hs), (b, co)) = (0, r9, A9) ∧ ClP ox op xO xW xN xC xA xM xG xT xH xR xF xB xX ob oc oh hc hp ot yc yt cI cZ A9 w9) := by
  have hn8 : n ≤ 8 := hA.1.1
  have hbk : bd_ok n P := hA.1.2.1
  have hgd : bd_gd n P := hA.1.2.2
  have hq6 : q ≤ 6 := hA.2.1
  have hhs : ∀ j, j < q → (hs j).1 ≤ 8 := fun j hj => (hA.2.2.1 j hj).1
  have hb60 : b ≤ 60 := hA.2.2.2
  refine wr_of (cc := cX4_solve) (maxL := 2) (ret := some .int) (by decide) rfl (Nat.le_of_ble_eq_true rfl) ?_
  intro p e s m below meth c hx hb hr hml hts hown hlocks hP hK hN hZ hD hS ls hl
  have hown : s.vm.findClass RX4 = some m.cls := hown
  have hl : lv_has ls 2 [(0, .ref ox)] := hl
  have hinX4 : ∀ w ∈ u_ws RX4 TX4 4, w ∈ wsX4_solve := by decide +kernel
  have hw19 := hts (.fieldLink RX4 19 "CornerLabels" "history" "LCornerLabels$History;") (by decide +kernel)
  have hw10 := hts (.fieldLink RX4 10 "CornerLabels" "board" "LCornerLabels$Board;") (by decide +kernel)
  have hw33 := hts (.fieldLink RX4 33 "CornerLabels" "plans" "LCornerLabels$Plans;") (by decide +kernel)
  suffices body : ∀ (H : Heap) (locs : List Loc), va_P D vwCl (ClW ox op xO xW xN xC xA xM xG xT xH xR xF xB xX ob oc oh hc hp ot yc yt cI cZ kn aO aW aN aC aA kS aM aG aT aH aR aF kF aB kT aX (nI n) f (nI q) zf zn co (nI b) td rg pa vl) H → va_D (wr_in (ClW ox op xO xW xN xC xA xM xG xT xH xR xF xB xX ob oc oh hc hp ot yc yt cI cZ kn aO aW aN aC aA kS aM aG aT aH aR aF kF aB kT aX (nI n) f (nI q) zf zn co (nI b) td rg pa vl)) (ClW ox op xO xW xN xC xA xM xG xT xH xR xF xB xX ob oc oh hc hp ot yc yt cI cZ kn aO aW aN aC aA kS aM aG aT aH aR aF kF aB kT aX (nI n) f (nI q) zf zn co (nI b) td rg pa vl) → va_S (wr_in (ClW ox op xO xW xN xC xA xM xG xT xH xR xF xB xX ob oc oh hc hp ot yc yt cI cZ kn aO aW aN aC aA kS aM aG aT aH aR aF kF aB kT aX (nI n) f (nI q) zf zn co (nI b) td rg pa vl)) s.heap H locs → wr_W p l e wsX4_solve ({ frames := 13, cells := 0, slots := 0, locals := 368 } : Room) s m [.ref ox] below meth c D (ClW ox op xO xW xN xC xA xM xG xT xH xR xF xB xX ob oc oh hc hp ot yc yt cI cZ kn aO aW aN aC aA kS aM aG aT aH aR aF kF aB kT aX (nI n) f (nI q) zf zn co (nI b) td rg pa vl) (fun v w9 => ∃ (r9 : Int32) (A9 : AS), v = some (.int r9) ∧ spSolve ((n, P), (q, hs), (b, co)) = (0, r9, A9) ∧ ClP ox op xO xW xN xC xA xM xG xT xH xR xF xB xX ob oc oh hc hp ot yc yt cI cZ A9 w9) H locs (F0 m 0 ls []) from body _ _ hP hD hS
  clear hP hD hS
  intro H locs hP hD hS
  refine lv_aload_n hx hb dX4_solve_0 rfl (lv_at hl 0 rfl) ?_
  refine va_get (D := D) (ci := 4) (v := .ref oh) (C := RX4) (T := TX4) (N := 4) hx hb hts hinX4 hown hK hP 0 rfl rfl 1 (by decide) hw19 (fun _ h9 => h9) rfl dX4_solve_1 ?_
  refine lv_aload_n hx hb dX4_solve_4 rfl (lv_at hl 0 rfl) ?_
  refine va_get (D := D) (ci := 4) (v := .ref ob) (C := RX4) (T := TX4) (N := 4) hx hb hts hinX4 hown hK hP 0 rfl rfl 0 (by decide) hw10 (fun _ h9 => h9) rfl dX4_solve_5 ?_
  refine wr_callV (As := [.ref ob]) (rest := []) ⟨hx, hb, hml, hown, hts⟩ (c_X1_save l D (k := q) hq6) (cwV 1 hts gX4_solve_X1_save rfl rfl rfl (by decide +kernel) ⟨by decide, by decide⟩) hK hN hZ hP hD hS [17, 18, 19, 15, 16] [0] rfl (by decide) rfl (q0 := 17) rfl rfl rfl hl.1 rfl (Nat.le_of_ble_eq_true rfl) ⟨by decide, by decide⟩ dX4_solve_8 (fun v9 w9 H locs hp9 hP hD hS => ?_)
  obtain ⟨rfl, rfl⟩ := hp9
  have hP : va_P D vwCl (ClW ox op xO xW xN xC xA xM xG xT xH xR xF xB xX ob oc oh hc hp ot yc yt cI cZ kn aO aW aN aC aA kS aM aG aT aH aR aF kF aB kT aX (nI n) f (nI ((if q < 6 then q else 5) + 1)) (va_cpy f (if q < 6 then zf else va_cpy zf zf 48 0 240) 0 ((if q < 6 then q else 5) * 48) 48) (upd (if q < 6 then zn else va_cpy zn zn 1 0 5) (if q < 6 then q else 5) (nI n)) co (nI b) td rg pa vl) H := hP
  have hD : va_D (wr_in (ClW ox op xO xW xN xC xA xM xG xT xH xR xF xB xX ob oc oh hc hp ot yc yt cI cZ kn aO aW aN aC aA kS aM aG aT aH aR aF kF aB kT aX (nI n) f (nI q) zf zn co (nI b) td rg pa vl)) (ClW ox op xO xW xN xC xA xM xG xT xH xR xF xB xX ob oc oh hc hp ot yc yt cI cZ kn aO aW aN aC aA kS aM aG aT aH aR aF kF aB kT aX (nI n) f (nI ((if q < 6 then q else 5) + 1)) (va_cpy f (if q < 6 then zf else va_cpy zf zf 48 0 240) 0 ((if q < 6 then q else 5) * 48) 48) (upd (if q < 6 then zn else va_cpy zn zn 1 0 5) (if q < 6 then q else 5) (nI n)) co (nI b) td rg pa vl) := hD
  refine W.eq (g2 := F0 m 11 ls []) rfl ?_
  refine lv_aload_n hx hb dX4_solve_11 rfl (lv_at hl 0 rfl) ?_
  refine va_get (D := D) (ci := 4) (v := .ref op) (C := RX4) (T := TX4) (N := 4) hx hb hts hinX4 hown hK hP 0 rfl rfl 3 (by decide) hw33 (fun _ h9 => h9) rfl dX4_solve_12 ?_
  refine lv_aload_n hx hb dX4_solve_15 rfl (lv_at hl 0 rfl) ?_
  refine va_get (D := D) (ci := 4) (v := .ref ob) (C := RX4) (T := TX4) (N := 4) hx hb hts hinX4 hown hK hP 0 rfl rfl 0 (by decide) hw10 (fun _ h9 => h9) rfl dX4_solve_16 ?_
  refine wr_callV (As := [.ref ob]) (rest := []) ⟨hx, hb, hml, hown, hts⟩ (c_X2_look (P := P) l D hn8 hf) (cwV 1 hts gX4_solve_X2_look rfl rfl rfl (by decide +kernel) ⟨by decide, by decide⟩) hK hN hZ hP hD hS [1, 2, 3, 4, 5, 6, 7, 8, 9, 10, 11, 12, 13, 14, 15, 16] [0, 1] rfl (by decide) rfl (q0 := 1) rfl rfl rfl hl.1 rfl (Nat.le_of_ble_eq_true rfl) ⟨by decide, by decide⟩ dX4_solve_19 (fun v9 w9 H locs hp9 hP hD hS => ?_)
  obtain ⟨aO_19, aW_19, aN_19, aC_19, hO_19, hC_19, rfl, rfl⟩ := hp9
  have hP : va_P D vwCl (ClW ox op xO xW xN xC xA xM xG xT xH xR xF xB xX ob oc oh hc hp ot yc yt cI cZ (nI n) aO_19 aW_19 aN_19 aC_19 aA kS aM aG aT aH aR aF kF aB kT aX (nI n) f (nI ((if q < 6 then q else 5) + 1)) (va_cpy f (if q < 6 then zf else va_cpy zf zf 48 0 240) 0 ((if q < 6 then q else 5) * 48) 48) (upd (if q < 6 then zn else va_cpy zn zn 1 0 5) (if q < 6 then q else 5) (nI n)) co (nI b) td rg pa vl) H := hP
  have hD : va_D (wr_in (ClW ox op xO xW xN xC xA xM xG xT xH xR xF xB xX ob oc oh hc hp ot yc yt cI cZ kn aO aW aN aC aA kS aM aG aT aH aR aF kF aB kT aX (nI n) f (nI q) zf zn co (nI b) td rg pa vl)) (ClW ox op xO xW xN xC xA xM xG xT xH xR xF xB xX ob oc oh hc hp ot yc yt cI cZ (nI n) aO_19 aW_19 aN_19 aC_19 aA kS aM aG aT aH aR aF kF aB kT aX (nI n) f (nI ((if q < 6 then q else 5) + 1)) (va_cpy f (if q < 6 then zf else va_cpy zf zf 48 0 240) 0 ((if q < 6 then q else 5) * 48) 48) (upd (if q < 6 then zn else va_cpy zn zn 1 0 5) (if q < 6 then q else 5) (nI n)) co (nI b) td rg pa vl) := hD
  refine W.eq (g2 := F0 m 22 ls []) rfl ?_
  refine lv_aload_n hx hb dX4_solve_22 rfl (lv_at hl 0 rfl) ?_
  refine va_get (D := D) (ci := 4) (v := .ref op) (C := RX4) (T := TX4) (N := 4) hx hb hts hinX4 hown hK hP 0 rfl rfl 3 (by decide) hw33 (fun _ h9 => h9) rfl dX4_solve_23 ?_
  refine lv_iconst (v := (-1)) hx hb dX4_solve_26 (by decide) ?_
  refine wr_callV (As := [.int (-1)]) (rest := []) ⟨hx, hb, hml, hown, hts⟩ (c_X2_hv l D hn8 hbk hO_19 hC_19 (-1)) (cwV 1 hts gX4_solve_X2_findHeaviest rfl rfl rfl (by decide +kernel) ⟨by decide, by decide⟩) hK hN hZ hP hD hS [1, 2, 3, 4, 5, 6, 7, 8, 9, 10, 11, 12, 13, 14, 15, 16] [0, 1] rfl (by decide) rfl (q0 := 1) rfl rfl rfl hl.1 rfl (Nat.le_of_ble_eq_true rfl) ⟨by decide, by decide⟩ dX4_solve_27 (fun v9 w9 H locs hp9 hP hD hS => ?_)
  obtain ⟨kS_27, aA_27, aM_27, aG_27, aT_27, aH_27, aR_27, aF_27, hfd_27, rfl, rfl⟩ := hp9
  have hP : va_P D vwCl (ClW ox op xO xW xN xC xA xM xG xT xH xR xF xB xX ob oc oh hc hp ot yc yt cI cZ (nI n) aO_19 aW_19 aN_19 aC_19 aA_27 kS_27 aM_27 aG_27 aT_27 aH_27 aR_27 aF_27 (hvW n P (-1)) aB kT aX (nI n) f (nI ((if q < 6 then q else 5) + 1)) (va_cpy f (if q < 6 then zf else va_cpy zf zf 48 0 240) 0 ((if q < 6 then q else 5) * 48) 48) (upd (if q < 6 then zn else va_cpy zn zn 1 0 5) (if q < 6 then q else 5) (nI n)) co (nI b) td rg pa vl) H := hP
  have hD : va_D (wr_in (ClW ox op xO xW xN xC xA xM xG xT xH xR xF xB xX ob oc oh hc hp ot yc yt cI cZ kn aO aW aN aC aA kS aM aG aT aH aR aF kF aB kT aX (nI n) f (nI q) zf zn co (nI b) td rg pa vl)) (ClW ox op xO xW xN xC xA xM xG xT xH xR xF xB xX ob oc oh hc hp ot yc yt cI cZ (nI n) aO_19 aW_19 aN_19 aC_19 aA_27 kS_27 aM_27 aG_27 aT_27 aH_27 aR_27 aF_27 (hvW n P (-1)) aB kT aX (nI n) f (nI ((if q < 6 then q else 5) + 1)) (va_cpy f (if q < 6 then zf else va_cpy zf zf 48 0 240) 0 ((if q < 6 then q else 5) * 48) 48) (upd (if q < 6 then zn else va_cpy zn zn 1 0 5) (if q < 6 then q else 5) (nI n)) co (nI b) td rg pa vl) := hD
  refine W.eq (g2 := F0 m 30 ls [.int (hvW n P (-1))]) rfl ?_
  refine lv_istore_n (lv' := [(1, .int (hvW n P (-1))), (0, .ref ox)]) hx hb dX4_solve_30 rfl hl (by decide) rfl (fun ls hl => ?_)
  refine lv_aload_n hx hb dX4_solve_31 rfl (lv_at hl 1 rfl) ?_
  refine wr_callVF (As := []) (rest := []) ⟨hx, hb, hml, hown, hts⟩ (c_X4_putLabelsAsFound (P := P) l D hn8 hf (mHv n P (-1) (fun _ => 0)).2 hfd_27) (cwV 0 hts gX4_solve_X4_putLabelsAsFound rfl rfl rfl (by decide +kernel) ⟨by decide, by decide⟩) hK hN hZ hP hD hS (q0 := 0) rfl rfl rfl hl.1 rfl (Nat.le_of_ble_eq_true rfl) ⟨by decide, by decide⟩ dX4_solve_32 (fun v9 w9 H locs hp9 hP hD hS => ?_)
  obtain ⟨rfl, f9, hf9, rfl⟩ := hp9
  have hP : va_P D vwCl (ClW ox op xO xW xN xC xA xM xG xT xH xR xF xB xX ob oc oh hc hp ot yc yt cI cZ (nI n) aO_19 aW_19 aN_19 aC_19 aA_27 kS_27 aM_27 aG_27 aT_27 aH_27 aR_27 aF_27 (hvW n P (-1)) aB kT aX (nI n) f9 (nI ((if q < 6 then q else 5) + 1)) (va_cpy f (if q < 6 then zf else va_cpy zf zf 48 0 240) 0 ((if q < 6 then q else 5) * 48) 48) (upd (if q < 6 then zn else va_cpy zn zn 1 0 5) (if q < 6 then q else 5) (nI n)) co (nI b) td rg pa vl) H := hP
  have hD : va_D (wr_in (ClW ox op xO xW xN xC xA xM xG xT xH xR xF xB xX ob oc oh hc hp ot yc yt cI cZ kn aO aW aN aC aA kS aM aG aT aH aR aF kF aB kT aX (nI n) f (nI q) zf zn co (nI b) td rg pa vl)) (ClW ox op xO xW xN xC xA xM xG xT xH xR xF xB xX ob oc oh hc hp ot yc yt cI cZ (nI n) aO_19 aW_19 aN_19 aC_19 aA_27 kS_27 aM_27 aG_27 aT_27 aH_27 aR_27 aF_27 (hvW n P (-1)) aB kT aX (nI n) f9 (nI ((if q < 6 then q else 5) + 1)) (va_cpy f (if q < 6 then zf else va_cpy zf zf 48 0 240) 0 ((if q < 6 then q else 5) * 48) 48) (upd (if q < 6 then zn else va_cpy zn zn 1 0 5) (if q < 6 then q else 5) (nI n)) co (nI b) td rg pa vl) := hD
  refine W.eq (g2 := F0 m 35 ls []) rfl ?_
  refine lv_iload_n hx hb dX4_solve_35 rfl (lv_at hl 0 rfl) ?_
  exact wr_iret hx hb hr hlocks hP hS rfl dX4_solve_36 (by exact ⟨_, aPut (n, mLy P (mHv n P (-1) (fun _ => 0)).2) ((n, P), (q, hs), (b, co)), rfl, rfl, _, _, _, _, _, _, _, _, _, _, _, _, _, _, _, _, _, _, _, _, _, _, _, _, hf9, (clH_save hq6 hn8 hhs hh hf), rfl⟩)
set_option maxHeartbeats 4000000 in
set_option maxRecDepth 100000 in
theorem c_X4_mirror (l : Launch) (D : va_G) {ox op xO xW xN xC xA xM xG xT xH xR xF xB xX ob oc oh hc hp ot yc yt : Nat} {cI : ClassId} {cZ : ClassId} {n q b : Nat} {P : Nat → Nat → Int32} {kn kS kF kT rg pa vl : Int32} {aO aW aN aC aA aM aG aT aH aR aF aB aX f zf zn co td : Nat → Int32} {hs : Nat → BS} (hA : aOK ((n, P), (q, hs), (b, co))) (hf : clB n P f) (hh : clH q hs zf zn) : wr_M l yX4_mirror wsX4_mirror ({ frames := 3, cells := 0, slots := 0, locals := 101 } : Room) D (ClW ox op xO xW xN xC xA xM xG xT xH xR xF xB xX ob oc oh hc hp ot yc yt cI cZ kn aO aW aN aC aA kS aM aG aT aH aR aF kF aB kT aX (nI n) f (nI q) zf zn co (nI b) td rg pa vl) [(cI, .int), (cZ, .boolean)] [.ref ox] (fun v w9 => ∃ (r9 : Int32) (A9 : AS), v = some (.int r9) ∧ spMirror ((n, P), (q, hs), (b, co)) = (0, r9, A9) ∧ ClP ox op xO xW xN xC xA xM xG xT xH xR xF xB xX ob oc oh hc hp ot yc yt cI cZ A9 w9) := by
  have hn8 : n ≤ 8 := hA.1.1
  have hbk : bd_ok n P := hA.1.2.1
  have hgd : bd_gd n P := hA.1.2.2
  have hq6 : q ≤ 6 := hA.2.1
  have hhs : ∀ j, j < q → (hs j).1 ≤ 8 := fun j hj => (hA.2.2.1 j hj).1
  have hb60 : b ≤ 60 := hA.2.2.2
  refine wr_of (cc := cX4_mirror) (maxL := 1) (ret := some .int) (by decide) rfl (Nat.le_of_ble_eq_true rfl) ?_
  intro p e s m below meth c hx hb hr hml hts hown hlocks hP hK hN hZ hD hS ls hl
  have hown : s.vm.findClass RX4 = some m.cls := hown
  have hl : lv_has ls 1 [(0, .ref ox)] := hl
  have hinX4 : ∀ w ∈ u_ws RX4 TX4 4, w ∈ wsX4_mirror := by decide +kernel
  have hw19 := hts (.fieldLink RX4 19 "CornerLabels" "history" "LCornerLabels$History;") (by decide +kernel)
  have hw10 := hts (.fieldLink RX4 10 "CornerLabels" "board" "LCornerLabels$Board;") (by decide +kernel)
  suffices body : ∀ (H : Heap) (locs : List Loc), va_P D vwCl (ClW ox op xO xW xN xC xA xM xG xT xH xR xF xB xX ob oc oh hc hp ot yc yt cI cZ kn aO aW aN aC aA kS aM aG aT aH aR aF kF aB kT aX (nI n) f (nI q) zf zn co (nI b) td rg pa vl) H → va_D (wr_in (ClW ox op xO xW xN xC xA xM xG xT xH xR xF xB xX ob oc oh hc hp ot yc yt cI cZ kn aO aW aN aC aA kS aM aG aT aH aR aF kF aB kT aX (nI n) f (nI q) zf zn co (nI b) td rg pa vl)) (ClW ox op xO xW xN xC xA xM xG xT xH xR xF xB xX ob oc oh hc hp ot yc yt cI cZ kn aO aW aN aC aA kS aM aG aT aH aR aF kF aB kT aX (nI n) f (nI q) zf zn co (nI b) td rg pa vl) → va_S (wr_in (ClW ox op xO xW xN xC xA xM xG xT xH xR xF xB xX ob oc oh hc hp ot yc yt cI cZ kn aO aW aN aC aA kS aM aG aT aH aR aF kF aB kT aX (nI n) f (nI q) zf zn co (nI b) td rg pa vl)) s.heap H locs → wr_W p l e wsX4_mirror ({ frames := 3, cells := 0, slots := 0, locals := 101 } : Room) s m [.ref ox] below meth c D (ClW ox op xO xW xN xC xA xM xG xT xH xR xF xB xX ob oc oh hc hp ot yc yt cI cZ kn aO aW aN aC aA kS aM aG aT aH aR aF kF aB kT aX (nI n) f (nI q) zf zn co (nI b) td rg pa vl) (fun v w9 => ∃ (r9 : Int32) (A9 : AS), v = some (.int r9) ∧ spMirror ((n, P), (q, hs), (b, co)) = (0, r9, A9) ∧ ClP ox op xO xW xN xC xA xM xG xT xH xR xF xB xX ob oc oh hc hp ot yc yt cI cZ A9 w9) H locs (F0 m 0 ls []) from body _ _ hP hD hS
  clear hP hD hS
  intro H locs hP hD hS
  refine lv_aload_n hx hb dX4_mirror_0 rfl (lv_at hl 0 rfl) ?_
  refine va_get (D := D) (ci := 4) (v := .ref oh) (C := RX4) (T := TX4) (N := 4) hx hb hts hinX4 hown hK hP 0 rfl rfl 1 (by decide) hw19 (fun _ h9 => h9) rfl dX4_mirror_1 ?_
  refine lv_aload_n hx hb dX4_mirror_4 rfl (lv_at hl 0 rfl) ?_
  refine va_get (D := D) (ci := 4) (v := .ref ob) (C := RX4) (T := TX4) (N := 4) hx hb hts hinX4 hown hK hP 0 rfl rfl 0 (by decide) hw10 (fun _ h9 => h9) rfl dX4_mirror_5 ?_
  refine wr_callV (As := [.ref ob]) (rest := []) ⟨hx, hb, hml, hown, hts⟩ (c_X1_save l D (k := q) hq6) (cwV 1 hts gX4_mirror_X1_save rfl rfl rfl (by decide +kernel) ⟨by decide, by decide⟩) hK hN hZ hP hD hS [17, 18, 19, 15, 16] [0] rfl (by decide) rfl (q0 := 17) rfl rfl rfl hl.1 rfl (Nat.le_of_ble_eq_true rfl) ⟨by decide, by decide⟩ dX4_mirror_8 (fun v9 w9 H locs hp9 hP hD hS => ?_)
  obtain ⟨rfl, rfl⟩ := hp9
  have hP : va_P D vwCl (ClW ox op xO xW xN xC xA xM xG xT xH xR xF xB xX ob oc oh hc hp ot yc yt cI cZ kn aO aW aN aC aA kS aM aG aT aH aR aF kF aB kT aX (nI n) f (nI ((if q < 6 then q else 5) + 1)) (va_cpy f (if q < 6 then zf else va_cpy zf zf 48 0 240) 0 ((if q < 6 then q else 5) * 48) 48) (upd (if q < 6 then zn else va_cpy zn zn 1 0 5) (if q < 6 then q else 5) (nI n)) co (nI b) td rg pa vl) H := hP
  have hD : va_D (wr_in (ClW ox op xO xW xN xC xA xM xG xT xH xR xF xB xX ob oc oh hc hp ot yc yt cI cZ kn aO aW aN aC aA kS aM aG aT aH aR aF kF aB kT aX (nI n) f (nI q) zf zn co (nI b) td rg pa vl)) (ClW ox op xO xW xN xC xA xM xG xT xH xR xF xB xX ob oc oh hc hp ot yc yt cI cZ kn aO aW aN aC aA kS aM aG aT aH aR aF kF aB kT aX (nI n) f (nI ((if q < 6 then q else 5) + 1)) (va_cpy f (if q < 6 then zf else va_cpy zf zf 48 0 240) 0 ((if q < 6 then q else 5) * 48) 48) (upd (if q < 6 then zn else va_cpy zn zn 1 0 5) (if q < 6 then q else 5) (nI n)) co (nI b) td rg pa vl) := hD
  refine W.eq (g2 := F0 m 11 ls []) rfl ?_
  refine lv_aload_n hx hb dX4_mirror_11 rfl (lv_at hl 0 rfl) ?_
  refine va_get (D := D) (ci := 4) (v := .ref ob) (C := RX4) (T := TX4) (N := 4) hx hb hts hinX4 hown hK hP 0 rfl rfl 0 (by decide) hw10 (fun _ h9 => h9) rfl dX4_mirror_12 ?_
  refine wr_callV (As := []) (rest := []) ⟨hx, hb, hml, hown, hts⟩ (c_X0_flip l D hn8 hf) (cwV 0 hts gX4_mirror_X0_flip rfl rfl rfl (by decide +kernel) ⟨by decide, by decide⟩) hK hN hZ hP hD hS [15, 16] [0] rfl (by decide) rfl (q0 := 15) rfl rfl rfl hl.1 rfl (Nat.le_of_ble_eq_true rfl) ⟨by decide, by decide⟩ dX4_mirror_15 (fun v9 w9 H locs hp9 hP hD hS => ?_)
  obtain hp9 := hp9
  obtain ⟨rfl, f9, rfl, hf9⟩ := hp9
  have hP : va_P D vwCl (ClW ox op xO xW xN xC xA xM xG xT xH xR xF xB xX ob oc oh hc hp ot yc yt cI cZ kn aO aW aN aC aA kS aM aG aT aH aR aF kF aB kT aX (nI n) f9 (nI ((if q < 6 then q else 5) + 1)) (va_cpy f (if q < 6 then zf else va_cpy zf zf 48 0 240) 0 ((if q < 6 then q else 5) * 48) 48) (upd (if q < 6 then zn else va_cpy zn zn 1 0 5) (if q < 6 then q else 5) (nI n)) co (nI b) td rg pa vl) H := hP
  have hD : va_D (wr_in (ClW ox op xO xW xN xC xA xM xG xT xH xR xF xB xX ob oc oh hc hp ot yc yt cI cZ kn aO aW aN aC aA kS aM aG aT aH aR aF kF aB kT aX (nI n) f (nI q) zf zn co (nI b) td rg pa vl)) (ClW ox op xO xW xN xC xA xM xG xT xH xR xF xB xX ob oc oh hc hp ot yc yt cI cZ kn aO aW aN aC aA kS aM aG aT aH aR aF kF aB kT aX (nI n) f9 (nI ((if q < 6 then q else 5) + 1)) (va_cpy f (if q < 6 then zf else va_cpy zf zf 48 0 240) 0 ((if q < 6 then q else 5) * 48) 48) (upd (if q < 6 then zn else va_cpy zn zn 1 0 5) (if q < 6 then q else 5) (nI n)) co (nI b) td rg pa vl) := hD
  refine W.eq (g2 := F0 m 18 ls []) rfl ?_
  refine lv_aload_n hx hb dX4_mirror_18 rfl (lv_at hl 0 rfl) ?_
  refine va_get (D := D) (ci := 4) (v := .ref ob) (C := RX4) (T := TX4) (N := 4) hx hb hts hinX4 hown hK hP 0 rfl rfl 0 (by decide) hw10 (fun _ h9 => h9) rfl dX4_mirror_19 ?_
  have hbd : bd_in (ClW ox op xO xW xN xC xA xM xG xT xH xR xF xB xX ob oc oh hc hp ot yc yt cI cZ kn aO aW aN aC aA kS aM aG aT aH aR aF kF aB kT aX (nI n) f9 (nI ((if q < 6 then q else 5) + 1)) (va_cpy f (if q < 6 then zf else va_cpy zf zf 48 0 240) 0 ((if q < 6 then q else 5) * 48) 48) (upd (if q < 6 then zn else va_cpy zn zn 1 0 5) (if q < 6 then q else 5) (nI n)) co (nI b) td rg pa vl) [(cI, .int), (cZ, .boolean)] ob n (gFlp P) := ⟨15, 16, 0, oc, cI, f9, rfl, rfl, rfl, hn8, hf9⟩
  refine rd_callV (As := []) (rest := []) ⟨hx, hb, hml, hown, hts⟩ (c_X0_standingLabels l D hbd) (cwV 0 hts gX4_mirror_X0_standingLabels rfl rfl rfl (by decide +kernel) ⟨by decide, by decide⟩) hK hN hP (q0 := 15) rfl rfl rfl hl.1 rfl (Nat.le_of_ble_eq_true rfl) ⟨by decide, by decide⟩ dX4_mirror_22 ?_
  exact wr_iret hx hb hr hlocks hP hS rfl dX4_mirror_25 (by exact ⟨_, aPut (n, gFlp P) ((n, P), (q, hs), (b, co)), rfl, rfl, _, _, _, _, _, _, _, _, _, _, _, _, _, _, _, _, _, _, _, _, _, _, _, _, hf9, (clH_save hq6 hn8 hhs hh hf), rfl⟩)
set_option maxHeartbeats 4000000 in
set_option maxRecDepth 100000 in
theorem c_X4_clearBuffer (l : Launch) (D : va_G) {ox op xO xW xN xC xA xM xG xT xH xR xF xB xX ob oc oh hc hp ot yc yt : Nat} {cI : ClassId} {cZ : ClassId} {n q b : Nat} {P : Nat → Nat → Int32} {kn kS kF kT rg pa vl : Int32} {aO aW aN aC aA aM aG aT aH aR aF aB aX f zf zn co td : Nat → Int32} {hs : Nat → BS} (hA : aOK ((n, P), (q, hs), (b, co))) (hf : clB n P f) (hh : clH q hs zf zn) : wr_M l yX4_clearBuffer wsX4_clearBuffer ({ frames := 0, cells := 0, slots := 0, locals := 0 } : Room) D (ClW ox op xO xW xN xC xA xM xG xT xH xR xF xB xX ob oc oh hc hp ot yc yt cI cZ kn aO aW aN aC aA kS aM aG aT aH aR aF kF aB kT aX (nI n) f (nI q) zf zn co (nI b) td rg pa vl) [(cI, .int), (cZ, .boolean)] [.ref ox] (fun v w9 => ∃ (r9 : Int32) (A9 : AS), v = some (.int r9) ∧ spClear ((n, P), (q, hs), (b, co)) = (0, r9, A9) ∧ ClP ox op xO xW xN xC xA xM xG xT xH xR xF xB xX ob oc oh hc hp ot yc yt cI cZ A9 w9) := by
  have hn8 : n ≤ 8 := hA.1.1
  have hbk : bd_ok n P := hA.1.2.1
  have hgd : bd_gd n P := hA.1.2.2
  have hq6 : q ≤ 6 := hA.2.1
  have hhs : ∀ j, j < q → (hs j).1 ≤ 8 := fun j hj => (hA.2.2.1 j hj).1
  have hb60 : b ≤ 60 := hA.2.2.2
  refine wr_of (cc := cX4_clearBuffer) (maxL := 2) (ret := some .int) (by decide) rfl (Nat.le_of_ble_eq_true rfl) ?_
  intro p e s m below meth c hx hb hr hml hts hown hlocks hP hK hN hZ hD hS ls hl
  have hown : s.vm.findClass RX4 = some m.cls := hown
  have hl : lv_has ls 2 [(0, .ref ox)] := hl
  have hinX4 : ∀ w ∈ u_ws RX4 TX4 4, w ∈ wsX4_clearBuffer := by decide +kernel
  have hw26 := hts (.fieldLink RX4 26 "CornerLabels" "typed" "LCornerLabels$Typed;") (by decide +kernel)
  have hinX3 : ∀ w ∈ u_ws RX3 TX3 6, w ∈ wsX4_clearBuffer := by decide +kernel
  have hw143 := hts (.fieldLink RX4 143 "CornerLabels$Typed" "length" "I") (by decide +kernel)
  suffices body : ∀ (H : Heap) (locs : List Loc), va_P D vwCl (ClW ox op xO xW xN xC xA xM xG xT xH xR xF xB xX ob oc oh hc hp ot yc yt cI cZ kn aO aW aN aC aA kS aM aG aT aH aR aF kF aB kT aX (nI n) f (nI q) zf zn co (nI b) td rg pa vl) H → va_D (wr_in (ClW ox op xO xW xN xC xA xM xG xT xH xR xF xB xX ob oc oh hc hp ot yc yt cI cZ kn aO aW aN aC aA kS aM aG aT aH aR aF kF aB kT aX (nI n) f (nI q) zf zn co (nI b) td rg pa vl)) (ClW ox op xO xW xN xC xA xM xG xT xH xR xF xB xX ob oc oh hc hp ot yc yt cI cZ kn aO aW aN aC aA kS aM aG aT aH aR aF kF aB kT aX (nI n) f (nI q) zf zn co (nI b) td rg pa vl) → va_S (wr_in (ClW ox op xO xW xN xC xA xM xG xT xH xR xF xB xX ob oc oh hc hp ot yc yt cI cZ kn aO aW aN aC aA kS aM aG aT aH aR aF kF aB kT aX (nI n) f (nI q) zf zn co (nI b) td rg pa vl)) s.heap H locs → wr_W p l e wsX4_clearBuffer ({ frames := 0, cells := 0, slots := 0, locals := 0 } : Room) s m [.ref ox] below meth c D (ClW ox op xO xW xN xC xA xM xG xT xH xR xF xB xX ob oc oh hc hp ot yc yt cI cZ kn aO aW aN aC aA kS aM aG aT aH aR aF kF aB kT aX (nI n) f (nI q) zf zn co (nI b) td rg pa vl) (fun v w9 => ∃ (r9 : Int32) (A9 : AS), v = some (.int r9) ∧ spClear ((n, P), (q, hs), (b, co)) = (0, r9, A9) ∧ ClP ox op xO xW xN xC xA xM xG xT xH xR xF xB xX ob oc oh hc hp ot yc yt cI cZ A9 w9) H locs (F0 m 0 ls []) from body _ _ hP hD hS
  clear hP hD hS
  intro H locs hP hD hS
  refine lv_aload_n hx hb dX4_clearBuffer_0 rfl (lv_at hl 0 rfl) ?_
  refine va_get (D := D) (ci := 4) (v := .ref ot) (C := RX4) (T := TX4) (N := 4) hx hb hts hinX4 hown hK hP 0 rfl rfl 2 (by decide) hw26 (fun _ h9 => h9) rfl dX4_clearBuffer_1 ?_
  refine va_get (D := D) (ci := 3) (v := .int (nI b)) (C := RX3) (T := TX3) (N := 6) hx hb hts hinX3 hown hK hP 20 rfl rfl 1 (by decide) hw143 (fun _ h9 => h9) rfl dX4_clearBuffer_4 ?_
  refine lv_istore_n (lv' := [(1, .int (nI b)), (0, .ref ox)]) hx hb dX4_clearBuffer_7 rfl hl (by decide) rfl (fun ls hl => ?_)
  refine lv_aload_n hx hb dX4_clearBuffer_8 rfl (lv_at hl 1 rfl) ?_
  refine va_get (D := D) (ci := 4) (v := .ref ot) (C := RX4) (T := TX4) (N := 4) hx hb hts hinX4 hown hK hP 0 rfl rfl 2 (by decide) hw26 (fun _ h9 => h9) rfl dX4_clearBuffer_9 ?_
  refine lv_iconst (v := 0) hx hb dX4_clearBuffer_12 (by decide) ?_
  refine va_put (D := D) (ci := 3) (v := .int 0) (ty := .int) (C := RX3) (T := TX3) (N := 6) hx hb hts hinX3 tyX3 tyX3_ok nmX3 hown hK hP hD hS 20 rfl rfl 1 (by decide) hw143 (fun _ h9 => h9) rfl (by decide +kernel) rfl rfl (Nat.le_of_ble_eq_true rfl) dX4_clearBuffer_13 (fun H locs hP hD hS => ?_)
  have hP : va_P D vwCl (ClW ox op xO xW xN xC xA xM xG xT xH xR xF xB xX ob oc oh hc hp ot yc yt cI cZ kn aO aW aN aC aA kS aM aG aT aH aR aF kF aB kT aX (nI n) f (nI q) zf zn co 0 td rg pa vl) H := hP
  have hD : va_D (wr_in (ClW ox op xO xW xN xC xA xM xG xT xH xR xF xB xX ob oc oh hc hp ot yc yt cI cZ kn aO aW aN aC aA kS aM aG aT aH aR aF kF aB kT aX (nI n) f (nI q) zf zn co (nI b) td rg pa vl)) (ClW ox op xO xW xN xC xA xM xG xT xH xR xF xB xX ob oc oh hc hp ot yc yt cI cZ kn aO aW aN aC aA kS aM aG aT aH aR aF kF aB kT aX (nI n) f (nI q) zf zn co 0 td rg pa vl) := hD
  refine lv_iload_n hx hb dX4_clearBuffer_16 rfl (lv_at hl 0 rfl) ?_
  exact wr_iret hx hb hr hlocks hP hS rfl dX4_clearBuffer_17 (by exact ⟨_, ((n, P), (q, hs), (0, co)), rfl, rfl, _, _, _, _, _, _, _, _, _, _, _, _, _, _, _, _, _, _, _, _, _, _, _, _, hf, hh, rfl⟩)
set_option maxHeartbeats 4000000 in
set_option maxRecDepth 100000 in
theorem c_X4_firstError (l : Launch) (D : va_G) {ox op xO xW xN xC xA xM xG xT xH xR xF xB xX ob oc oh hc hp ot yc yt : Nat} {cI : ClassId} {cZ : ClassId} {n q b : Nat} {P : Nat → Nat → Int32} {kn kS kF kT rg pa vl : Int32} {aO aW aN aC aA aM aG aT aH aR aF aB aX f zf zn co td : Nat → Int32} {hs : Nat → BS} (hA : aOK ((n, P), (q, hs), (b, co))) (hf : clB n P f) (hh : clH q hs zf zn) : wr_M l yX4_firstError wsX4_firstError ({ frames := 3, cells := 0, slots := 0, locals := 65 } : Room) D (ClW ox op xO xW xN xC xA xM xG xT xH xR xF xB xX ob oc oh hc hp ot yc yt cI cZ kn aO aW aN aC aA kS aM aG aT aH aR aF kF aB kT aX (nI n) f (nI q) zf zn co (nI b) td rg pa vl) [(cI, .int), (cZ, .boolean)] [.ref ox] (fun v w9 => ∃ (r9 : Int32) (A9 : AS), v = some (.int r9) ∧ spFirst ((n, P), (q, hs), (b, co)) td = (0, r9, A9) ∧ ClP ox op xO xW xN xC xA xM xG xT xH xR xF xB xX ob oc oh hc hp ot yc yt cI cZ A9 w9) := by
  have hn8 : n ≤ 8 := hA.1.1
  have hbk : bd_ok n P := hA.1.2.1
  have hgd : bd_gd n P := hA.1.2.2
  have hq6 : q ≤ 6 := hA.2.1
  have hhs : ∀ j, j < q → (hs j).1 ≤ 8 := fun j hj => (hA.2.2.1 j hj).1
  have hb60 : b ≤ 60 := hA.2.2.2
  refine wr_of (cc := cX4_firstError) (maxL := 1) (ret := some .int) (by decide) rfl (Nat.le_of_ble_eq_true rfl) ?_
  intro p e s m below meth c hx hb hr hml hts hown hlocks hP hK hN hZ hD hS ls hl
  have hown : s.vm.findClass RX4 = some m.cls := hown
  have hl : lv_has ls 1 [(0, .ref ox)] := hl
  have hinX4 : ∀ w ∈ u_ws RX4 TX4 4, w ∈ wsX4_firstError := by decide +kernel
  have hw26 := hts (.fieldLink RX4 26 "CornerLabels" "typed" "LCornerLabels$Typed;") (by decide +kernel)
  suffices body : ∀ (H : Heap) (locs : List Loc), va_P D vwCl (ClW ox op xO xW xN xC xA xM xG xT xH xR xF xB xX ob oc oh hc hp ot yc yt cI cZ kn aO aW aN aC aA kS aM aG aT aH aR aF kF aB kT aX (nI n) f (nI q) zf zn co (nI b) td rg pa vl) H → va_D (wr_in (ClW ox op xO xW xN xC xA xM xG xT xH xR xF xB xX ob oc oh hc hp ot yc yt cI cZ kn aO aW aN aC aA kS aM aG aT aH aR aF kF aB kT aX (nI n) f (nI q) zf zn co (nI b) td rg pa vl)) (ClW ox op xO xW xN xC xA xM xG xT xH xR xF xB xX ob oc oh hc hp ot yc yt cI cZ kn aO aW aN aC aA kS aM aG aT aH aR aF kF aB kT aX (nI n) f (nI q) zf zn co (nI b) td rg pa vl) → va_S (wr_in (ClW ox op xO xW xN xC xA xM xG xT xH xR xF xB xX ob oc oh hc hp ot yc yt cI cZ kn aO aW aN aC aA kS aM aG aT aH aR aF kF aB kT aX (nI n) f (nI q) zf zn co (nI b) td rg pa vl)) s.heap H locs → wr_W p l e wsX4_firstError ({ frames := 3, cells := 0, slots := 0, locals := 65 } : Room) s m [.ref ox] below meth c D (ClW ox op xO xW xN xC xA xM xG xT xH xR xF xB xX ob oc oh hc hp ot yc yt cI cZ kn aO aW aN aC aA kS aM aG aT aH aR aF kF aB kT aX (nI n) f (nI q) zf zn co (nI b) td rg pa vl) (fun v w9 => ∃ (r9 : Int32) (A9 : AS), v = some (.int r9) ∧ spFirst ((n, P), (q, hs), (b, co)) td = (0, r9, A9) ∧ ClP ox op xO xW xN xC xA xM xG xT xH xR xF xB xX ob oc oh hc hp ot yc yt cI cZ A9 w9) H locs (F0 m 0 ls []) from body _ _ hP hD hS
  clear hP hD hS
  intro H locs hP hD hS
  refine lv_aload_n hx hb dX4_firstError_0 rfl (lv_at hl 0 rfl) ?_
  refine va_get (D := D) (ci := 4) (v := .ref ot) (C := RX4) (T := TX4) (N := 4) hx hb hts hinX4 hown hK hP 0 rfl rfl 2 (by decide) hw26 (fun _ h9 => h9) rfl dX4_firstError_1 ?_
  refine wr_callV (As := []) (rest := []) ⟨hx, hb, hml, hown, hts⟩ (c_X3_scan l D hb60) (cwV 0 hts gX4_firstError_X3_scan rfl rfl rfl (by decide +kernel) ⟨by decide, by decide⟩) hK hN hZ hP hD hS [20, 21, 22] [0] rfl (by decide) rfl (q0 := 20) rfl rfl rfl hl.1 rfl (Nat.le_of_ble_eq_true rfl) ⟨by decide, by decide⟩ dX4_firstError_4 (fun v9 w9 H locs hp9 hP hD hS => ?_)
  obtain ⟨rfl, rfl⟩ := hp9
  have hP : va_P D vwCl (ClW ox op xO xW xN xC xA xM xG xT xH xR xF xB xX ob oc oh hc hp ot yc yt cI cZ kn aO aW aN aC aA kS aM aG aT aH aR aF kF aB kT aX (nI n) f (nI q) zf zn co (nI b) ((tyR co b 0 (tyIn td)).2.2.2.2.2) (nI ((tyR co b 0 (tyIn td)).2.2.1)) (nI ((tyR co b 0 (tyIn td)).2.2.2.1)) ((tyR co b 0 (tyIn td)).2.2.2.2.1)) H := hP
  have hD : va_D (wr_in (ClW ox op xO xW xN xC xA xM xG xT xH xR xF xB xX ob oc oh hc hp ot yc yt cI cZ kn aO aW aN aC aA kS aM aG aT aH aR aF kF aB kT aX (nI n) f (nI q) zf zn co (nI b) td rg pa vl)) (ClW ox op xO xW xN xC xA xM xG xT xH xR xF xB xX ob oc oh hc hp ot yc yt cI cZ kn aO aW aN aC aA kS aM aG aT aH aR aF kF aB kT aX (nI n) f (nI q) zf zn co (nI b) ((tyR co b 0 (tyIn td)).2.2.2.2.2) (nI ((tyR co b 0 (tyIn td)).2.2.1)) (nI ((tyR co b 0 (tyIn td)).2.2.2.1)) ((tyR co b 0 (tyIn td)).2.2.2.2.1)) := hD
  refine W.eq (g2 := F0 m 7 ls [.int (nI ((tyR co b 0 (tyIn td)).1))]) rfl ?_
  exact wr_iret hx hb hr hlocks hP hS rfl dX4_firstError_7 (by exact ⟨_, ((n, P), (q, hs), (b, co)), rfl, rfl, _, _, _, _, _, _, _, _, _, _, _, _, _, _, _, _, _, _, _, _, _, _, _, _, hf, hh, rfl⟩)
set_option maxHeartbeats 4000000 in
set_option maxRecDepth 100000 in
theorem c_X4_fullPlans (l : Launch) (D : va_G) {ox op xO xW xN xC xA xM xG xT xH xR xF xB xX ob oc oh hc hp ot yc yt : Nat} {cI : ClassId} {cZ : ClassId} {n q b : Nat} {P : Nat → Nat → Int32} {kn kS kF kT rg pa vl : Int32} {aO aW aN aC aA aM aG aT aH aR aF aB aX f zf zn co td : Nat → Int32} {hs : Nat → BS} (hA : aOK ((n, P), (q, hs), (b, co))) (hf : clB n P f) (hh : clH q hs zf zn) : wr_M l yX4_fullPlans wsX4_fullPlans ({ frames := 12, cells := 0, slots := 0, locals := 344 } : Room) D (ClW ox op xO xW xN xC xA xM xG xT xH xR xF xB xX ob oc oh hc hp ot yc yt cI cZ kn aO aW aN aC aA kS aM aG aT aH aR aF kF aB kT aX (nI n) f (nI q) zf zn co (nI b) td rg pa vl) [(cI, .int), (cZ, .boolean)] [.ref ox] (fun v w9 => ∃ (r9 : Int32) (A9 : AS), v = some (.int r9) ∧ spFull ((n, P), (q, hs), (b, co)) = (0, r9, A9) ∧ ClP ox op xO xW xN xC xA xM xG xT xH xR xF xB xX ob oc oh hc hp ot yc yt cI cZ A9 w9) := by
  have hn8 : n ≤ 8 := hA.1.1
  have hbk : bd_ok n P := hA.1.2.1
  have hgd : bd_gd n P := hA.1.2.2
  have hq6 : q ≤ 6 := hA.2.1
  have hhs : ∀ j, j < q → (hs j).1 ≤ 8 := fun j hj => (hA.2.2.1 j hj).1
  have hb60 : b ≤ 60 := hA.2.2.2
  refine wr_of (cc := cX4_fullPlans) (maxL := 1) (ret := some .int) (by decide) rfl (Nat.le_of_ble_eq_true rfl) ?_
  intro p e s m below meth c hx hb hr hml hts hown hlocks hP hK hN hZ hD hS ls hl
  have hown : s.vm.findClass RX4 = some m.cls := hown
  have hl : lv_has ls 1 [(0, .ref ox)] := hl
  have hinX4 : ∀ w ∈ u_ws RX4 TX4 4, w ∈ wsX4_fullPlans := by decide +kernel
  have hw33 := hts (.fieldLink RX4 33 "CornerLabels" "plans" "LCornerLabels$Plans;") (by decide +kernel)
  have hw10 := hts (.fieldLink RX4 10 "CornerLabels" "board" "LCornerLabels$Board;") (by decide +kernel)
  suffices body : ∀ (H : Heap) (locs : List Loc), va_P D vwCl (ClW ox op xO xW xN xC xA xM xG xT xH xR xF xB xX ob oc oh hc hp ot yc yt cI cZ kn aO aW aN aC aA kS aM aG aT aH aR aF kF aB kT aX (nI n) f (nI q) zf zn co (nI b) td rg pa vl) H → va_D (wr_in (ClW ox op xO xW xN xC xA xM xG xT xH xR xF xB xX ob oc oh hc hp ot yc yt cI cZ kn aO aW aN aC aA kS aM aG aT aH aR aF kF aB kT aX (nI n) f (nI q) zf zn co (nI b) td rg pa vl)) (ClW ox op xO xW xN xC xA xM xG xT xH xR xF xB xX ob oc oh hc hp ot yc yt cI cZ kn aO aW aN aC aA kS aM aG aT aH aR aF kF aB kT aX (nI n) f (nI q) zf zn co (nI b) td rg pa vl) → va_S (wr_in (ClW ox op xO xW xN xC xA xM xG xT xH xR xF xB xX ob oc oh hc hp ot yc yt cI cZ kn aO aW aN aC aA kS aM aG aT aH aR aF kF aB kT aX (nI n) f (nI q) zf zn co (nI b) td rg pa vl)) s.heap H locs → wr_W p l e wsX4_fullPlans ({ frames := 12, cells := 0, slots := 0, locals := 344 } : Room) s m [.ref ox] below meth c D (ClW ox op xO xW xN xC xA xM xG xT xH xR xF xB xX ob oc oh hc hp ot yc yt cI cZ kn aO aW aN aC aA kS aM aG aT aH aR aF kF aB kT aX (nI n) f (nI q) zf zn co (nI b) td rg pa vl) (fun v w9 => ∃ (r9 : Int32) (A9 : AS), v = some (.int r9) ∧ spFull ((n, P), (q, hs), (b, co)) = (0, r9, A9) ∧ ClP ox op xO xW xN xC xA xM xG xT xH xR xF xB xX ob oc oh hc hp ot yc yt cI cZ A9 w9) H locs (F0 m 0 ls []) from body _ _ hP hD hS
  clear hP hD hS
  intro H locs hP hD hS
  refine lv_aload_n hx hb dX4_fullPlans_0 rfl (lv_at hl 0 rfl) ?_
  refine va_get (D := D) (ci := 4) (v := .ref op) (C := RX4) (T := TX4) (N := 4) hx hb hts hinX4 hown hK hP 0 rfl rfl 3 (by decide) hw33 (fun _ h9 => h9) rfl dX4_fullPlans_1 ?_
  refine lv_aload_n hx hb dX4_fullPlans_4 rfl (lv_at hl 0 rfl) ?_
  refine va_get (D := D) (ci := 4) (v := .ref ob) (C := RX4) (T := TX4) (N := 4) hx hb hts hinX4 hown hK hP 0 rfl rfl 0 (by decide) hw10 (fun _ h9 => h9) rfl dX4_fullPlans_5 ?_
  refine wr_callV (As := [.ref ob]) (rest := []) ⟨hx, hb, hml, hown, hts⟩ (c_X2_look (P := P) l D hn8 hf) (cwV 1 hts gX4_fullPlans_X2_look rfl rfl rfl (by decide +kernel) ⟨by decide, by decide⟩) hK hN hZ hP hD hS [1, 2, 3, 4, 5, 6, 7, 8, 9, 10, 11, 12, 13, 14, 15, 16] [0, 1] rfl (by decide) rfl (q0 := 1) rfl rfl rfl hl.1 rfl (Nat.le_of_ble_eq_true rfl) ⟨by decide, by decide⟩ dX4_fullPlans_8 (fun v9 w9 H locs hp9 hP hD hS => ?_)
  obtain ⟨aO_8, aW_8, aN_8, aC_8, hO_8, hC_8, rfl, rfl⟩ := hp9
  have hP : va_P D vwCl (ClW ox op xO xW xN xC xA xM xG xT xH xR xF xB xX ob oc oh hc hp ot yc yt cI cZ (nI n) aO_8 aW_8 aN_8 aC_8 aA kS aM aG aT aH aR aF kF aB kT aX (nI n) f (nI q) zf zn co (nI b) td rg pa vl) H := hP
  have hD : va_D (wr_in (ClW ox op xO xW xN xC xA xM xG xT xH xR xF xB xX ob oc oh hc hp ot yc yt cI cZ kn aO aW aN aC aA kS aM aG aT aH aR aF kF aB kT aX (nI n) f (nI q) zf zn co (nI b) td rg pa vl)) (ClW ox op xO xW xN xC xA xM xG xT xH xR xF xB xX ob oc oh hc hp ot yc yt cI cZ (nI n) aO_8 aW_8 aN_8 aC_8 aA kS aM aG aT aH aR aF kF aB kT aX (nI n) f (nI q) zf zn co (nI b) td rg pa vl) := hD
  refine W.eq (g2 := F0 m 11 ls []) rfl ?_
  refine lv_aload_n hx hb dX4_fullPlans_11 rfl (lv_at hl 0 rfl) ?_
  refine va_get (D := D) (ci := 4) (v := .ref op) (C := RX4) (T := TX4) (N := 4) hx hb hts hinX4 hown hK hP 0 rfl rfl 3 (by decide) hw33 (fun _ h9 => h9) rfl dX4_fullPlans_12 ?_
  refine wr_callV (As := []) (rest := []) ⟨hx, hb, hml, hown, hts⟩ (c_X2_full l D hn8 hbk hO_8 hC_8) (cwV 0 hts gX4_fullPlans_X2_fullOnes rfl rfl rfl (by decide +kernel) ⟨by decide, by decide⟩) hK hN hZ hP hD hS [1, 2, 3, 4, 5, 6, 7, 8, 9, 10, 11, 12, 13, 14, 15, 16] [0, 1] rfl (by decide) rfl (q0 := 1) rfl rfl rfl hl.1 rfl (Nat.le_of_ble_eq_true rfl) ⟨by decide, by decide⟩ dX4_fullPlans_15 (fun v9 w9 H locs hp9 hP hD hS => ?_)
  obtain ⟨rfl, rfl⟩ := hp9
  have hP : va_P D vwCl (ClW ox op xO xW xN xC xA xM xG xT xH xR xF xB xX ob oc oh hc hp ot yc yt cI cZ (nI n) aO_8 aW_8 aN_8 aC_8 aA kS aM aG aT aH aR aF kF aB kT aX (nI n) f (nI q) zf zn co (nI b) td rg pa vl) H := hP
  have hD : va_D (wr_in (ClW ox op xO xW xN xC xA xM xG xT xH xR xF xB xX ob oc oh hc hp ot yc yt cI cZ kn aO aW aN aC aA kS aM aG aT aH aR aF kF aB kT aX (nI n) f (nI q) zf zn co (nI b) td rg pa vl)) (ClW ox op xO xW xN xC xA xM xG xT xH xR xF xB xX ob oc oh hc hp ot yc yt cI cZ (nI n) aO_8 aW_8 aN_8 aC_8 aA kS aM aG aT aH aR aF kF aB kT aX (nI n) f (nI q) zf zn co (nI b) td rg pa vl) := hD
  refine W.eq (g2 := F0 m 18 ls [.int ((mFu n P (fun _ => 0)).1)]) rfl ?_
  exact wr_iret hx hb hr hlocks hP hS rfl dX4_fullPlans_18 (by exact ⟨_, ((n, P), (q, hs), (b, co)), rfl, rfl, _, _, _, _, _, _, _, _, _, _, _, _, _, _, _, _, _, _, _, _, _, _, _, _, hf, hh, rfl⟩)
set_option maxHeartbeats 4000000 in
set_option maxRecDepth 100000 in
theorem c_X4_dearest (l : Launch) (D : va_G) {ox op xO xW xN xC xA xM xG xT xH xR xF xB xX ob oc oh hc hp ot yc yt : Nat} {cI : ClassId} {cZ : ClassId} {n q b : Nat} {P : Nat → Nat → Int32} {kn kS kF kT rg pa vl : Int32} {aO aW aN aC aA aM aG aT aH aR aF aB aX f zf zn co td : Nat → Int32} {hs : Nat → BS} (hA : aOK ((n, P), (q, hs), (b, co))) (hf : clB n P f) (hh : clH q hs zf zn) : wr_M l yX4_dearest wsX4_dearest ({ frames := 14, cells := 0, slots := 0, locals := 389 } : Room) D (ClW ox op xO xW xN xC xA xM xG xT xH xR xF xB xX ob oc oh hc hp ot yc yt cI cZ kn aO aW aN aC aA kS aM aG aT aH aR aF kF aB kT aX (nI n) f (nI q) zf zn co (nI b) td rg pa vl) [(cI, .int), (cZ, .boolean)] [.ref ox] (fun v w9 => ∃ (r9 : Int32) (A9 : AS), v = some (.int r9) ∧ spDear ((n, P), (q, hs), (b, co)) = (0, r9, A9) ∧ ClP ox op xO xW xN xC xA xM xG xT xH xR xF xB xX ob oc oh hc hp ot yc yt cI cZ A9 w9) := by
  have hn8 : n ≤ 8 := hA.1.1
  have hbk : bd_ok n P := hA.1.2.1
  have hgd : bd_gd n P := hA.1.2.2
  have hq6 : q ≤ 6 := hA.2.1
  have hhs : ∀ j, j < q → (hs j).1 ≤ 8 := fun j hj => (hA.2.2.1 j hj).1
  have hb60 : b ≤ 60 := hA.2.2.2
  refine wr_of (cc := cX4_dearest) (maxL := 1) (ret := some .int) (by decide) rfl (Nat.le_of_ble_eq_true rfl) ?_
  intro p e s m below meth c hx hb hr hml hts hown hlocks hP hK hN hZ hD hS ls hl
  have hown : s.vm.findClass RX4 = some m.cls := hown
  have hl : lv_has ls 1 [(0, .ref ox)] := hl
  have hinX4 : ∀ w ∈ u_ws RX4 TX4 4, w ∈ wsX4_dearest := by decide +kernel
  have hw33 := hts (.fieldLink RX4 33 "CornerLabels" "plans" "LCornerLabels$Plans;") (by decide +kernel)
  have hw10 := hts (.fieldLink RX4 10 "CornerLabels" "board" "LCornerLabels$Board;") (by decide +kernel)
  suffices body : ∀ (H : Heap) (locs : List Loc), va_P D vwCl (ClW ox op xO xW xN xC xA xM xG xT xH xR xF xB xX ob oc oh hc hp ot yc yt cI cZ kn aO aW aN aC aA kS aM aG aT aH aR aF kF aB kT aX (nI n) f (nI q) zf zn co (nI b) td rg pa vl) H → va_D (wr_in (ClW ox op xO xW xN xC xA xM xG xT xH xR xF xB xX ob oc oh hc hp ot yc yt cI cZ kn aO aW aN aC aA kS aM aG aT aH aR aF kF aB kT aX (nI n) f (nI q) zf zn co (nI b) td rg pa vl)) (ClW ox op xO xW xN xC xA xM xG xT xH xR xF xB xX ob oc oh hc hp ot yc yt cI cZ kn aO aW aN aC aA kS aM aG aT aH aR aF kF aB kT aX (nI n) f (nI q) zf zn co (nI b) td rg pa vl) → va_S (wr_in (ClW ox op xO xW xN xC xA xM xG xT xH xR xF xB xX ob oc oh hc hp ot yc yt cI cZ kn aO aW aN aC aA kS aM aG aT aH aR aF kF aB kT aX (nI n) f (nI q) zf zn co (nI b) td rg pa vl)) s.heap H locs → wr_W p l e wsX4_dearest ({ frames := 14, cells := 0, slots := 0, locals := 389 } : Room) s m [.ref ox] below meth c D (ClW ox op xO xW xN xC xA xM xG xT xH xR xF xB xX ob oc oh hc hp ot yc yt cI cZ kn aO aW aN aC aA kS aM aG aT aH aR aF kF aB kT aX (nI n) f (nI q) zf zn co (nI b) td rg pa vl) (fun v w9 => ∃ (r9 : Int32) (A9 : AS), v = some (.int r9) ∧ spDear ((n, P), (q, hs), (b, co)) = (0, r9, A9) ∧ ClP ox op xO xW xN xC xA xM xG xT xH xR xF xB xX ob oc oh hc hp ot yc yt cI cZ A9 w9) H locs (F0 m 0 ls []) from body _ _ hP hD hS
  clear hP hD hS
  intro H locs hP hD hS
  refine lv_aload_n hx hb dX4_dearest_0 rfl (lv_at hl 0 rfl) ?_
  refine va_get (D := D) (ci := 4) (v := .ref op) (C := RX4) (T := TX4) (N := 4) hx hb hts hinX4 hown hK hP 0 rfl rfl 3 (by decide) hw33 (fun _ h9 => h9) rfl dX4_dearest_1 ?_
  refine lv_aload_n hx hb dX4_dearest_4 rfl (lv_at hl 0 rfl) ?_
  refine va_get (D := D) (ci := 4) (v := .ref ob) (C := RX4) (T := TX4) (N := 4) hx hb hts hinX4 hown hK hP 0 rfl rfl 0 (by decide) hw10 (fun _ h9 => h9) rfl dX4_dearest_5 ?_
  refine wr_callV (As := [.ref ob]) (rest := []) ⟨hx, hb, hml, hown, hts⟩ (c_X2_look (P := P) l D hn8 hf) (cwV 1 hts gX4_dearest_X2_look rfl rfl rfl (by decide +kernel) ⟨by decide, by decide⟩) hK hN hZ hP hD hS [1, 2, 3, 4, 5, 6, 7, 8, 9, 10, 11, 12, 13, 14, 15, 16] [0, 1] rfl (by decide) rfl (q0 := 1) rfl rfl rfl hl.1 rfl (Nat.le_of_ble_eq_true rfl) ⟨by decide, by decide⟩ dX4_dearest_8 (fun v9 w9 H locs hp9 hP hD hS => ?_)
  obtain ⟨aO_8, aW_8, aN_8, aC_8, hO_8, hC_8, rfl, rfl⟩ := hp9
  have hP : va_P D vwCl (ClW ox op xO xW xN xC xA xM xG xT xH xR xF xB xX ob oc oh hc hp ot yc yt cI cZ (nI n) aO_8 aW_8 aN_8 aC_8 aA kS aM aG aT aH aR aF kF aB kT aX (nI n) f (nI q) zf zn co (nI b) td rg pa vl) H := hP
  have hD : va_D (wr_in (ClW ox op xO xW xN xC xA xM xG xT xH xR xF xB xX ob oc oh hc hp ot yc yt cI cZ kn aO aW aN aC aA kS aM aG aT aH aR aF kF aB kT aX (nI n) f (nI q) zf zn co (nI b) td rg pa vl)) (ClW ox op xO xW xN xC xA xM xG xT xH xR xF xB xX ob oc oh hc hp ot yc yt cI cZ (nI n) aO_8 aW_8 aN_8 aC_8 aA kS aM aG aT aH aR aF kF aB kT aX (nI n) f (nI q) zf zn co (nI b) td rg pa vl) := hD
  refine W.eq (g2 := F0 m 11 ls []) rfl ?_
  refine lv_aload_n hx hb dX4_dearest_11 rfl (lv_at hl 0 rfl) ?_
  refine va_get (D := D) (ci := 4) (v := .ref op) (C := RX4) (T := TX4) (N := 4) hx hb hts hinX4 hown hK hP 0 rfl rfl 3 (by decide) hw33 (fun _ h9 => h9) rfl dX4_dearest_12 ?_
  refine wr_callV (As := []) (rest := []) ⟨hx, hb, hml, hown, hts⟩ (c_X2_findWithoutEach l D hn8 hbk hO_8 hC_8) (cwV 0 hts gX4_dearest_X2_findWithoutEach rfl rfl rfl (by decide +kernel) ⟨by decide, by decide⟩) hK hN hZ hP hD hS [1, 2, 3, 4, 5, 6, 7, 8, 9, 10, 11, 12, 13, 14, 15, 16] [0, 1] rfl (by decide) rfl (q0 := 1) rfl rfl rfl hl.1 rfl (Nat.le_of_ble_eq_true rfl) ⟨by decide, by decide⟩ dX4_dearest_15 (fun v9 w9 H locs hp9 hP hD hS => ?_)
  obtain ⟨rfl, kS_15, kF_15, aA_15, aM_15, aG_15, aT_15, aH_15, aR_15, aF_15, aX_15, hX_15, rfl⟩ := hp9
  have hP : va_P D vwCl (ClW ox op xO xW xN xC xA xM xG xT xH xR xF xB xX ob oc oh hc hp ot yc yt cI cZ (nI n) aO_8 aW_8 aN_8 aC_8 aA_15 kS_15 aM_15 aG_15 aT_15 aH_15 aR_15 aF_15 kF_15 aB kT aX_15 (nI n) f (nI q) zf zn co (nI b) td rg pa vl) H := hP
  have hD : va_D (wr_in (ClW ox op xO xW xN xC xA xM xG xT xH xR xF xB xX ob oc oh hc hp ot yc yt cI cZ kn aO aW aN aC aA kS aM aG aT aH aR aF kF aB kT aX (nI n) f (nI q) zf zn co (nI b) td rg pa vl)) (ClW ox op xO xW xN xC xA xM xG xT xH xR xF xB xX ob oc oh hc hp ot yc yt cI cZ (nI n) aO_8 aW_8 aN_8 aC_8 aA_15 kS_15 aM_15 aG_15 aT_15 aH_15 aR_15 aF_15 kF_15 aB kT aX_15 (nI n) f (nI q) zf zn co (nI b) td rg pa vl) := hD
  refine W.eq (g2 := F0 m 18 ls []) rfl ?_
  refine lv_aload_n hx hb dX4_dearest_18 rfl (lv_at hl 0 rfl) ?_
  refine wr_callVF (As := []) (rest := []) ⟨hx, hb, hml, hown, hts⟩ (c_X4_findDearest l D hn8 hbk hf hX_15) (cwV 0 hts gX4_dearest_X4_findDearest rfl rfl rfl (by decide +kernel) ⟨by decide, by decide⟩) hK hN hZ hP hD hS (q0 := 0) rfl rfl rfl hl.1 rfl (Nat.le_of_ble_eq_true rfl) ⟨by decide, by decide⟩ dX4_dearest_19 (fun v9 w9 H locs hp9 hP hD hS => ?_)
  obtain ⟨rfl, rfl⟩ := hp9
  have hP : va_P D vwCl (ClW ox op xO xW xN xC xA xM xG xT xH xR xF xB xX ob oc oh hc hp ot yc yt cI cZ (nI n) aO_8 aW_8 aN_8 aC_8 aA_15 kS_15 aM_15 aG_15 aT_15 aH_15 aR_15 aF_15 kF_15 aB kT aX_15 (nI n) f (nI q) zf zn co (nI b) td rg pa vl) H := hP
  have hD : va_D (wr_in (ClW ox op xO xW xN xC xA xM xG xT xH xR xF xB xX ob oc oh hc hp ot yc yt cI cZ kn aO aW aN aC aA kS aM aG aT aH aR aF kF aB kT aX (nI n) f (nI q) zf zn co (nI b) td rg pa vl)) (ClW ox op xO xW xN xC xA xM xG xT xH xR xF xB xX ob oc oh hc hp ot yc yt cI cZ (nI n) aO_8 aW_8 aN_8 aC_8 aA_15 kS_15 aM_15 aG_15 aT_15 aH_15 aR_15 aF_15 kF_15 aB kT aX_15 (nI n) f (nI q) zf zn co (nI b) td rg pa vl) := hD
  refine W.eq (g2 := F0 m 22 ls [.int (mDear n P)]) rfl ?_
  exact wr_iret hx hb hr hlocks hP hS rfl dX4_dearest_22 (by exact ⟨_, ((n, P), (q, hs), (b, co)), rfl, rfl, _, _, _, _, _, _, _, _, _, _, _, _, _, _, _, _, _, _, _, _, _, _, _, _, hf, hh, rfl⟩)
