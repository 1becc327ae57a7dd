set_option maxHeartbeats 4000000 in
set_option maxRecDepth 100000 in
theorem c_L_add (l : Launch) (hfl : l.stackTraces = false) (D : va_G) {ox op xO xW xN xC xA xM xG xT xH xR xF xB xX ob oc oh hc hp ot yc yt ol : Nat} {cI cZ cJ : ClassId} {n q b : Nat} {P : Nat → Nat → Int32} {kn kS kF kT rg pa vl : Int32} {aO aW aN aC aA aM aG aT aH aR aF aB aX f zf zn co td : Nat → Int32} {hs : Nat → BS} (hA : aOK ((n, P), (q, hs), (b, co))) (hf : clB n P f) (hh : clH q hs zf zn) (x y wd hg wt : Int32) {g : Nat → Int64} : wc_M l yL_add wsL_add ({ frames := 7, cells := 1, slots := 6, locals := 126 } : Room) D ((ClW ox op xO xW xN xC xA xM xG xT xH xR xF xB xX ob oc oh hc hp ot yc yt cI cZ kn aO aW aN aC aA kS aM aG aT aH aR aF kF aB kT aX (nI n) f (nI q) zf zn co (nI b) td rg pa vl) ++ [(ol, LgE cJ g)]) [(cI, .int), (cZ, .boolean), (cJ, .long)] [.ref ox, .int x, .int y, .int wd, .int hg, .int wt, .ref ol] (fun v w9 => ∃ (k r : Int32) (A9 : AS) (g9 : Nat → Int64) (wc : va_W), v = some (.int k) ∧ spAdd ((n, P), (q, hs), (b, co)) x y wd hg wt = (k, r, A9) ∧ (k = 0 → g9 0 = r.toInt64) ∧ ClP ox op xO xW xN xC xA xM xG xT xH xR xF xB xX ob oc oh hc hp ot yc yt cI cZ A9 wc ∧ w9 = wc ++ [(ol, LgE cJ g9)]) := by
  refine wc_of (cc := cL_add) (maxL := 8) (ret := some .int) (hh := [(0, 16, 19, 13), (0, 16, 23, 15)]) (by decide) rfl (Nat.le_of_ble_eq_true rfl) ?_
  intro p e s m below meth c hx hb hr hml hts hown hlocks htab hP hK hN hZ hT hD hS ls hl
  have hown : s.vm.findClass RL = some m.cls := hown
  have hl : lv_has ls 8 [(0, .ref ox), (1, .int x), (2, .int y), (3, .int wd), (4, .int hg), (5, .int wt), (6, .ref ol)] := hl
  refine lv_aload hx hb dL_add_0 (lv_at hl 6 rfl) ?_
  refine lv_iconst (v := 0) hx hb dL_add_2 (by decide) ?_
  refine lv_aload_n hx hb dL_add_3 rfl (lv_at hl 0 rfl) ?_
  refine lv_iload_n hx hb dL_add_4 rfl (lv_at hl 1 rfl) ?_
  refine lv_iload_n hx hb dL_add_5 rfl (lv_at hl 2 rfl) ?_
  refine lv_iload_n hx hb dL_add_6 rfl (lv_at hl 3 rfl) ?_
  refine lv_iload hx hb dL_add_7 (lv_at hl 4 rfl) ?_
  refine lv_iload hx hb dL_add_9 (lv_at hl 5 rfl) ?_
  refine wa_callVX (As := [.int x, .int y, .int wd, .int hg, .int wt]) (rest := [.int 0, .ref ol]) ⟨hx, hb, hml, hown, hts⟩ (c_X4_add (P := P) l hfl D hA hf hh x y wd hg wt) (cwV 5 hts gL_add_X4_add rfl rfl rfl (by decide +kernel) ⟨by decide, by decide⟩) hK hN hZ hT hP hD hS [0, 1] rfl (q0 := 0) rfl rfl rfl hl.1 rfl (Nat.le_of_ble_eq_true rfl) ⟨by decide, by decide⟩ dL_add_11 ?_ ?_
  · intro E ce q9 w1 H1 locs1 hpx hP hD hS hcell hv hcl
    obtain ⟨hd, _, _, _, _, _, _, _, _, _, _, _, _, _, _, _, _, _, _, _, _, _, _, _, _, hB, hH, rfl⟩ := hpx
    rcases hd with ⟨rfl, hsp⟩ | ⟨rfl, hsp⟩
    · have hcl : s.vm.findClass "java/lang/IllegalArgumentException" = some ce.cls := hcl
      refine vx_catch (own := RL) (name := "java/lang/IllegalArgumentException") hown [] ⟨0, 16, 19, 13⟩ [⟨0, 16, 23, 15⟩] htab (fun z hz => nomatch hz) (by decide) (by decide) (hts (.classLink RL 13 "java/lang/IllegalArgumentException") (by decide +kernel)) (va_Nw.use rfl hT.2.2.1.1) hcell hv hcl ?_
      refine lv_astore (lv' := [(7, .ref q9), (0, .ref ox), (1, .int x), (2, .int y), (3, .int wd), (4, .int hg), (5, .int wt), (6, .ref ol)]) hx hb dL_add_19 hl (by decide) rfl (fun ls hl => ?_)
      refine lv_iconst (v := 1) hx hb dL_add_21 (by decide) ?_
      exact wc_iret hx hb hr hlocks hP hS rfl dL_add_22 ⟨1, 0, ((n, P), (q, hs), (b, co)), g, _, rfl, hsp, fun q => absurd q (by decide), ⟨_, _, _, _, _, _, _, _, _, _, _, _, _, _, _, _, _, _, _, _, _, _, _, _, hB, hH, rfl⟩, rfl⟩
    · have hcl : s.vm.findClass "java/lang/IllegalStateException" = some ce.cls := hcl
      have hpass : ∀ ze ∈ ([⟨0, 16, 19, 13⟩] : List ExceptionTableEntry), covers ze 11 = false ∨ (ze.catchType ≠ 0 ∧ ∃ nm : String, (Cond.classLink RL ze.catchType nm).before [.ref ox, .int x, .int y, .int wd, .int hg, .int wt, .ref ol].toArray s = true ∧ va_Nc "java/lang/IllegalStateException" nm s) := by
        intro ze hz
        rcases List.mem_cons.mp hz with rfl | hz
        · exact Or.inr ⟨by decide, _, hts (.classLink RL 13 "java/lang/IllegalArgumentException") (by decide +kernel), hT.2.2.2.1.1⟩
        exact nomatch hz
      refine vx_catch (own := RL) (name := "java/lang/IllegalStateException") hown [⟨0, 16, 19, 13⟩] ⟨0, 16, 23, 15⟩ [] htab hpass (by decide) (by decide) (hts (.classLink RL 15 "java/lang/IllegalStateException") (by decide +kernel)) (va_Nw.use rfl hT.2.2.1.2.1) hcell hv hcl ?_
      refine lv_astore (lv' := [(7, .ref q9), (0, .ref ox), (1, .int x), (2, .int y), (3, .int wd), (4, .int hg), (5, .int wt), (6, .ref ol)]) hx hb dL_add_23 hl (by decide) rfl (fun ls hl => ?_)
      refine lv_iconst (v := 2) hx hb dL_add_25 (by decide) ?_
      exact wc_iret hx hb hr hlocks hP hS rfl dL_add_26 ⟨2, 0, ((n, P), (q, hs), (b, co)), g, _, rfl, hsp, fun q => absurd q (by decide), ⟨_, _, _, _, _, _, _, _, _, _, _, _, _, _, _, _, _, _, _, _, _, _, _, _, hB, hH, rfl⟩, rfl⟩
  · intro v w1 H1 locs1 hpost hP hD hS
    obtain ⟨r9, A9, rfl, hsp, kn8, kS8, kF8, kT8, rg8, pa8, vl8, aO8, aW8, aN8, aC8, aA8, aM8, aG8, aT8, aH8, aR8, aF8, aB8, aX8, f8, zf8, zn8, td8, hB, hH, rfl⟩ := hpost
    refine W.eq (g2 := F0 m 14 ls [.int r9, .int 0, .ref ol]) rfl ?_
    refine lv_i2l (v := (r9 : Int32).toInt64) hx hb dL_add_14 rfl ?_
    refine va_last hx hb hK hP hD hS 23 2 rfl rfl in01 dL_add_15 (fun H2 locs2 hP hD hS => ?_)
    have hP : va_P D vwCl ((ClW ox op xO xW xN xC xA xM xG xT xH xR xF xB xX ob oc oh hc hp ot yc yt cI cZ kn8 aO8 aW8 aN8 aC8 aA8 kS8 aM8 aG8 aT8 aH8 aR8 aF8 kF8 aB8 kT8 aX8 (nI A9.1.1) f8 (nI A9.2.1.1) zf8 zn8 A9.2.2.2 (nI A9.2.2.1) td8 rg8 pa8 vl8) ++ [(ol, LgE cJ (vp_updL g (0 : Int32).toNatClampNeg (r9 : Int32).toInt64))]) H2 := hP
    refine lv_goto (tgt := 27) hx hb dL_add_16 (by decide) ?_
    refine lv_iconst (v := 0) hx hb dL_add_27 (by decide) ?_
    exact wc_iret hx hb hr hlocks hP hS rfl dL_add_28 ⟨0, r9, A9, _, _, rfl, hsp, fun _ => updL0, ⟨kn8, kS8, kF8, kT8, rg8, pa8, vl8, aO8, aW8, aN8, aC8, aA8, aM8, aG8, aT8, aH8, aR8, aF8, aB8, aX8, f8, zf8, zn8, td8, hB, hH, rfl⟩, rfl⟩
set_option maxHeartbeats 4000000 in
set_option maxRecDepth 100000 in
theorem c_L_remove (l : Launch) (hfl : l.stackTraces = false) (D : va_G) {ox op xO xW xN xC xA xM xG xT xH xR xF xB xX ob oc oh hc hp ot yc yt ol : Nat} {cI cZ cJ : ClassId} {n q b : Nat} {P : Nat → Nat → Int32} {kn kS kF kT rg pa vl : Int32} {aO aW aN aC aA aM aG aT aH aR aF aB aX f zf zn co td : Nat → Int32} {hs : Nat → BS} (hA : aOK ((n, P), (q, hs), (b, co))) (hf : clB n P f) (hh : clH q hs zf zn) (x : Int32) {g : Nat → Int64} : wc_M l yL_remove wsL_remove ({ frames := 7, cells := 1, slots := 6, locals := 123 } : Room) D ((ClW ox op xO xW xN xC xA xM xG xT xH xR xF xB xX ob oc oh hc hp ot yc yt cI cZ kn aO aW aN aC aA kS aM aG aT aH aR aF kF aB kT aX (nI n) f (nI q) zf zn co (nI b) td rg pa vl) ++ [(ol, LgE cJ g)]) [(cI, .int), (cZ, .boolean), (cJ, .long)] [.ref ox, .int x, .ref ol] (fun v w9 => ∃ (k r : Int32) (A9 : AS) (g9 : Nat → Int64) (wc : va_W), v = some (.int k) ∧ spRemove ((n, P), (q, hs), (b, co)) x = (k, r, A9) ∧ (k = 0 → g9 0 = r.toInt64) ∧ ClP ox op xO xW xN xC xA xM xG xT xH xR xF xB xX ob oc oh hc hp ot yc yt cI cZ A9 wc ∧ w9 = wc ++ [(ol, LgE cJ g9)]) := by
  refine wc_of (cc := cL_remove) (maxL := 4) (ret := some .int) (hh := [(0, 9, 12, 21)]) (by decide) rfl (Nat.le_of_ble_eq_true rfl) ?_
  intro p e s m below meth c hx hb hr hml hts hown hlocks htab hP hK hN hZ hT hD hS ls hl
  have hown : s.vm.findClass RL = some m.cls := hown
  have hl : lv_has ls 4 [(0, .ref ox), (1, .int x), (2, .ref ol)] := hl
  refine lv_aload_n hx hb dL_remove_0 rfl (lv_at hl 2 rfl) ?_
  refine lv_iconst (v := 0) hx hb dL_remove_1 (by decide) ?_
  refine lv_aload_n hx hb dL_remove_2 rfl (lv_at hl 0 rfl) ?_
  refine lv_iload_n hx hb dL_remove_3 rfl (lv_at hl 1 rfl) ?_
  refine wa_callVX (As := [.int x]) (rest := [.int 0, .ref ol]) ⟨hx, hb, hml, hown, hts⟩ (c_X4_remove (P := P) l hfl D hA hf hh x) (cwV 1 hts gL_remove_X4_remove rfl rfl rfl (by decide +kernel) ⟨by decide, by decide⟩) hK hN hZ hT hP hD hS [0, 1] rfl (q0 := 0) rfl rfl rfl hl.1 rfl (Nat.le_of_ble_eq_true rfl) ⟨by decide, by decide⟩ dL_remove_4 ?_ ?_
  · intro E ce q9 w1 H1 locs1 hpx hP hD hS hcell hv hcl
    obtain ⟨hd, _, _, _, _, _, _, _, _, _, _, _, _, _, _, _, _, _, _, _, _, _, _, _, _, hB, hH, rfl⟩ := hpx
    rcases hd with ⟨rfl, hsp⟩
    · have hcl : s.vm.findClass "java/lang/IndexOutOfBoundsException" = some ce.cls := hcl
      refine vx_catch (own := RL) (name := "java/lang/IndexOutOfBoundsException") hown [] ⟨0, 9, 12, 21⟩ [] htab (fun z hz => nomatch hz) (by decide) (by decide) (hts (.classLink RL 21 "java/lang/IndexOutOfBoundsException") (by decide +kernel)) (va_Nw.use rfl hT.2.2.1.2.2.1) hcell hv hcl ?_
      refine lv_astore_n (lv' := [(3, .ref q9), (0, .ref ox), (1, .int x), (2, .ref ol)]) hx hb dL_remove_12 rfl hl (by decide) rfl (fun ls hl => ?_)
      refine lv_iconst (v := 1) hx hb dL_remove_13 (by decide) ?_
      exact wc_iret hx hb hr hlocks hP hS rfl dL_remove_14 ⟨1, 0, ((n, P), (q, hs), (b, co)), g, _, rfl, hsp, fun q => absurd q (by decide), ⟨_, _, _, _, _, _, _, _, _, _, _, _, _, _, _, _, _, _, _, _, _, _, _, _, hB, hH, rfl⟩, rfl⟩
  · intro v w1 H1 locs1 hpost hP hD hS
    obtain ⟨r9, A9, rfl, hsp, kn8, kS8, kF8, kT8, rg8, pa8, vl8, aO8, aW8, aN8, aC8, aA8, aM8, aG8, aT8, aH8, aR8, aF8, aB8, aX8, f8, zf8, zn8, td8, hB, hH, rfl⟩ := hpost
    refine W.eq (g2 := F0 m 7 ls [.int r9, .int 0, .ref ol]) rfl ?_
    refine lv_i2l (v := (r9 : Int32).toInt64) hx hb dL_remove_7 rfl ?_
    refine va_last hx hb hK hP hD hS 23 2 rfl rfl in01 dL_remove_8 (fun H2 locs2 hP hD hS => ?_)
    have hP : va_P D vwCl ((ClW ox op xO xW xN xC xA xM xG xT xH xR xF xB xX ob oc oh hc hp ot yc yt cI cZ kn8 aO8 aW8 aN8 aC8 aA8 kS8 aM8 aG8 aT8 aH8 aR8 aF8 kF8 aB8 kT8 aX8 (nI A9.1.1) f8 (nI A9.2.1.1) zf8 zn8 A9.2.2.2 (nI A9.2.2.1) td8 rg8 pa8 vl8) ++ [(ol, LgE cJ (vp_updL g (0 : Int32).toNatClampNeg (r9 : Int32).toInt64))]) H2 := hP
    refine lv_goto (tgt := 15) hx hb dL_remove_9 (by decide) ?_
    refine lv_iconst (v := 0) hx hb dL_remove_15 (by decide) ?_
    exact wc_iret hx hb hr hlocks hP hS rfl dL_remove_16 ⟨0, r9, A9, _, _, rfl, hsp, fun _ => updL0, ⟨kn8, kS8, kF8, kT8, rg8, pa8, vl8, aO8, aW8, aN8, aC8, aA8, aM8, aG8, aT8, aH8, aR8, aF8, aB8, aX8, f8, zf8, zn8, td8, hB, hH, rfl⟩, rfl⟩
set_option maxHeartbeats 4000000 in
set_option maxRecDepth 100000 in
theorem c_L_weigh (l : Launch) (hfl : l.stackTraces = false) (D : va_G) {ox op xO xW xN xC xA xM xG xT xH xR xF xB xX ob oc oh hc hp ot yc yt ol : Nat} {cI cZ cJ : ClassId} {n q b : Nat} {P : Nat → Nat → Int32} {kn kS kF kT rg pa vl : Int32} {aO aW aN aC aA aM aG aT aH aR aF aB aX f zf zn co td : Nat → Int32} {hs : Nat → BS} (hA : aOK ((n, P), (q, hs), (b, co))) (hf : clB n P f) (hh : clH q hs zf zn) (x y : Int32) {g : Nat → Int64} : wc_M l yL_weigh wsL_weigh ({ frames := 7, cells := 1, slots := 6, locals := 124 } : Room) D ((ClW ox op xO xW xN xC xA xM xG xT xH xR xF xB xX ob oc oh hc hp ot yc yt cI cZ kn aO aW aN aC aA kS aM aG aT aH aR aF kF aB kT aX (nI n) f (nI q) zf zn co (nI b) td rg pa vl) ++ [(ol, LgE cJ g)]) [(cI, .int), (cZ, .boolean), (cJ, .long)] [.ref ox, .int x, .int y, .ref ol] (fun v w9 => ∃ (k r : Int32) (A9 : AS) (g9 : Nat → Int64) (wc : va_W), v = some (.int k) ∧ spWeigh ((n, P), (q, hs), (b, co)) x y = (k, r, A9) ∧ (k = 0 → g9 0 = r.toInt64) ∧ ClP ox op xO xW xN xC xA xM xG xT xH xR xF xB xX ob oc oh hc hp ot yc yt cI cZ A9 wc ∧ w9 = wc ++ [(ol, LgE cJ g9)]) := by
  refine wc_of (cc := cL_weigh) (maxL := 5) (ret := some .int) (hh := [(0, 10, 13, 21), (0, 10, 17, 13)]) (by decide) rfl (Nat.le_of_ble_eq_true rfl) ?_
  intro p e s m below meth c hx hb hr hml hts hown hlocks htab hP hK hN hZ hT hD hS ls hl
  have hown : s.vm.findClass RL = some m.cls := hown
  have hl : lv_has ls 5 [(0, .ref ox), (1, .int x), (2, .int y), (3, .ref ol)] := hl
  refine lv_aload_n hx hb dL_weigh_0 rfl (lv_at hl 3 rfl) ?_
  refine lv_iconst (v := 0) hx hb dL_weigh_1 (by decide) ?_
  refine lv_aload_n hx hb dL_weigh_2 rfl (lv_at hl 0 rfl) ?_
  refine lv_iload_n hx hb dL_weigh_3 rfl (lv_at hl 1 rfl) ?_
  refine lv_iload_n hx hb dL_weigh_4 rfl (lv_at hl 2 rfl) ?_
  refine wa_callVX (As := [.int x, .int y]) (rest := [.int 0, .ref ol]) ⟨hx, hb, hml, hown, hts⟩ (c_X4_weigh (P := P) l hfl D hA hf hh x y) (cwV 2 hts gL_weigh_X4_weigh rfl rfl rfl (by decide +kernel) ⟨by decide, by decide⟩) hK hN hZ hT hP hD hS [0, 1] rfl (q0 := 0) rfl rfl rfl hl.1 rfl (Nat.le_of_ble_eq_true rfl) ⟨by decide, by decide⟩ dL_weigh_5 ?_ ?_
  · intro E ce q9 w1 H1 locs1 hpx hP hD hS hcell hv hcl
    obtain ⟨hd, _, _, _, _, _, _, _, _, _, _, _, _, _, _, _, _, _, _, _, _, _, _, _, _, hB, hH, rfl⟩ := hpx
    rcases hd with ⟨rfl, hsp⟩ | ⟨rfl, hsp⟩
    · have hcl : s.vm.findClass "java/lang/IndexOutOfBoundsException" = some ce.cls := hcl
      refine vx_catch (own := RL) (name := "java/lang/IndexOutOfBoundsException") hown [] ⟨0, 10, 13, 21⟩ [⟨0, 10, 17, 13⟩] htab (fun z hz => nomatch hz) (by decide) (by decide) (hts (.classLink RL 21 "java/lang/IndexOutOfBoundsException") (by decide +kernel)) (va_Nw.use rfl hT.2.2.1.2.2.1) hcell hv hcl ?_
      refine lv_astore (lv' := [(4, .ref q9), (0, .ref ox), (1, .int x), (2, .int y), (3, .ref ol)]) hx hb dL_weigh_13 hl (by decide) rfl (fun ls hl => ?_)
      refine lv_iconst (v := 1) hx hb dL_weigh_15 (by decide) ?_
      exact wc_iret hx hb hr hlocks hP hS rfl dL_weigh_16 ⟨1, 0, ((n, P), (q, hs), (b, co)), g, _, rfl, hsp, fun q => absurd q (by decide), ⟨_, _, _, _, _, _, _, _, _, _, _, _, _, _, _, _, _, _, _, _, _, _, _, _, hB, hH, rfl⟩, rfl⟩
    · have hcl : s.vm.findClass "java/lang/IllegalArgumentException" = some ce.cls := hcl
      have hpass : ∀ ze ∈ ([⟨0, 10, 13, 21⟩] : List ExceptionTableEntry), covers ze 5 = false ∨ (ze.catchType ≠ 0 ∧ ∃ nm : String, (Cond.classLink RL ze.catchType nm).before [.ref ox, .int x, .int y, .ref ol].toArray s = true ∧ va_Nc "java/lang/IllegalArgumentException" nm s) := by
        intro ze hz
        rcases List.mem_cons.mp hz with rfl | hz
        · exact Or.inr ⟨by decide, _, hts (.classLink RL 21 "java/lang/IndexOutOfBoundsException") (by decide +kernel), hT.2.2.2.1.2.1⟩
        exact nomatch hz
      refine vx_catch (own := RL) (name := "java/lang/IllegalArgumentException") hown [⟨0, 10, 13, 21⟩] ⟨0, 10, 17, 13⟩ [] htab hpass (by decide) (by decide) (hts (.classLink RL 13 "java/lang/IllegalArgumentException") (by decide +kernel)) (va_Nw.use rfl hT.2.2.1.1) hcell hv hcl ?_
      refine lv_astore (lv' := [(4, .ref q9), (0, .ref ox), (1, .int x), (2, .int y), (3, .ref ol)]) hx hb dL_weigh_17 hl (by decide) rfl (fun ls hl => ?_)
      refine lv_iconst (v := 2) hx hb dL_weigh_19 (by decide) ?_
      exact wc_iret hx hb hr hlocks hP hS rfl dL_weigh_20 ⟨2, 0, ((n, P), (q, hs), (b, co)), g, _, rfl, hsp, fun q => absurd q (by decide), ⟨_, _, _, _, _, _, _, _, _, _, _, _, _, _, _, _, _, _, _, _, _, _, _, _, hB, hH, rfl⟩, rfl⟩
  · intro v w1 H1 locs1 hpost hP hD hS
    obtain ⟨r9, A9, rfl, hsp, kn8, kS8, kF8, kT8, rg8, pa8, vl8, aO8, aW8, aN8, aC8, aA8, aM8, aG8, aT8, aH8, aR8, aF8, aB8, aX8, f8, zf8, zn8, td8, hB, hH, rfl⟩ := hpost
    refine W.eq (g2 := F0 m 8 ls [.int r9, .int 0, .ref ol]) rfl ?_
    refine lv_i2l (v := (r9 : Int32).toInt64) hx hb dL_weigh_8 rfl ?_
    refine va_last hx hb hK hP hD hS 23 2 rfl rfl in01 dL_weigh_9 (fun H2 locs2 hP hD hS => ?_)
    have hP : va_P D vwCl ((ClW ox op xO xW xN xC xA xM xG xT xH xR xF xB xX ob oc oh hc hp ot yc yt cI cZ kn8 aO8 aW8 aN8 aC8 aA8 kS8 aM8 aG8 aT8 aH8 aR8 aF8 kF8 aB8 kT8 aX8 (nI A9.1.1) f8 (nI A9.2.1.1) zf8 zn8 A9.2.2.2 (nI A9.2.2.1) td8 rg8 pa8 vl8) ++ [(ol, LgE cJ (vp_updL g (0 : Int32).toNatClampNeg (r9 : Int32).toInt64))]) H2 := hP
    refine lv_goto (tgt := 21) hx hb dL_weigh_10 (by decide) ?_
    refine lv_iconst (v := 0) hx hb dL_weigh_21 (by decide) ?_
    exact wc_iret hx hb hr hlocks hP hS rfl dL_weigh_22 ⟨0, r9, A9, _, _, rfl, hsp, fun _ => updL0, ⟨kn8, kS8, kF8, kT8, rg8, pa8, vl8, aO8, aW8, aN8, aC8, aA8, aM8, aG8, aT8, aH8, aR8, aF8, aB8, aX8, f8, zf8, zn8, td8, hB, hH, rfl⟩, rfl⟩
set_option maxHeartbeats 4000000 in
set_option maxRecDepth 100000 in
theorem c_L_resize (l : Launch) (hfl : l.stackTraces = false) (D : va_G) {ox op xO xW xN xC xA xM xG xT xH xR xF xB xX ob oc oh hc hp ot yc yt ol : Nat} {cI cZ cJ : ClassId} {n q b : Nat} {P : Nat → Nat → Int32} {kn kS kF kT rg pa vl : Int32} {aO aW aN aC aA aM aG aT aH aR aF aB aX f zf zn co td : Nat → Int32} {hs : Nat → BS} (hA : aOK ((n, P), (q, hs), (b, co))) (hf : clB n P f) (hh : clH q hs zf zn) (x y z : Int32) {g : Nat → Int64} : wc_M l yL_resize wsL_resize ({ frames := 7, cells := 1, slots := 6, locals := 124 } : Room) D ((ClW ox op xO xW xN xC xA xM xG xT xH xR xF xB xX ob oc oh hc hp ot yc yt cI cZ kn aO aW aN aC aA kS aM aG aT aH aR aF kF aB kT aX (nI n) f (nI q) zf zn co (nI b) td rg pa vl) ++ [(ol, LgE cJ g)]) [(cI, .int), (cZ, .boolean), (cJ, .long)] [.ref ox, .int x, .int y, .int z, .ref ol] (fun v w9 => ∃ (k r : Int32) (A9 : AS) (g9 : Nat → Int64) (wc : va_W), v = some (.int k) ∧ spResize ((n, P), (q, hs), (b, co)) x y z = (k, r, A9) ∧ (k = 0 → g9 0 = r.toInt64) ∧ ClP ox op xO xW xN xC xA xM xG xT xH xR xF xB xX ob oc oh hc hp ot yc yt cI cZ A9 wc ∧ w9 = wc ++ [(ol, LgE cJ g9)]) := by
  refine wc_of (cc := cL_resize) (maxL := 6) (ret := some .int) (hh := [(0, 12, 15, 21), (0, 12, 19, 13)]) (by decide) rfl (Nat.le_of_ble_eq_true rfl) ?_
  intro p e s m below meth c hx hb hr hml hts hown hlocks htab hP hK hN hZ hT hD hS ls hl
  have hown : s.vm.findClass RL = some m.cls := hown
  have hl : lv_has ls 6 [(0, .ref ox), (1, .int x), (2, .int y), (3, .int z), (4, .ref ol)] := hl
  refine lv_aload hx hb dL_resize_0 (lv_at hl 4 rfl) ?_
  refine lv_iconst (v := 0) hx hb dL_resize_2 (by decide) ?_
  refine lv_aload_n hx hb dL_resize_3 rfl (lv_at hl 0 rfl) ?_
  refine lv_iload_n hx hb dL_resize_4 rfl (lv_at hl 1 rfl) ?_
  refine lv_iload_n hx hb dL_resize_5 rfl (lv_at hl 2 rfl) ?_
  refine lv_iload_n hx hb dL_resize_6 rfl (lv_at hl 3 rfl) ?_
  refine wa_callVX (As := [.int x, .int y, .int z]) (rest := [.int 0, .ref ol]) ⟨hx, hb, hml, hown, hts⟩ (c_X4_resize (P := P) l hfl D hA hf hh x y z) (cwV 3 hts gL_resize_X4_resize rfl rfl rfl (by decide +kernel) ⟨by decide, by decide⟩) hK hN hZ hT hP hD hS [0, 1] rfl (q0 := 0) rfl rfl rfl hl.1 rfl (Nat.le_of_ble_eq_true rfl) ⟨by decide, by decide⟩ dL_resize_7 ?_ ?_
  · intro E ce q9 w1 H1 locs1 hpx hP hD hS hcell hv hcl
    obtain ⟨hd, _, _, _, _, _, _, _, _, _, _, _, _, _, _, _, _, _, _, _, _, _, _, _, _, hB, hH, rfl⟩ := hpx
    rcases hd with ⟨rfl, hsp⟩ | ⟨rfl, hsp⟩
    · have hcl : s.vm.findClass "java/lang/IndexOutOfBoundsException" = some ce.cls := hcl
      refine vx_catch (own := RL) (name := "java/lang/IndexOutOfBoundsException") hown [] ⟨0, 12, 15, 21⟩ [⟨0, 12, 19, 13⟩] htab (fun z hz => nomatch hz) (by decide) (by decide) (hts (.classLink RL 21 "java/lang/IndexOutOfBoundsException") (by decide +kernel)) (va_Nw.use rfl hT.2.2.1.2.2.1) hcell hv hcl ?_
      refine lv_astore (lv' := [(5, .ref q9), (0, .ref ox), (1, .int x), (2, .int y), (3, .int z), (4, .ref ol)]) hx hb dL_resize_15 hl (by decide) rfl (fun ls hl => ?_)
      refine lv_iconst (v := 1) hx hb dL_resize_17 (by decide) ?_
      exact wc_iret hx hb hr hlocks hP hS rfl dL_resize_18 ⟨1, 0, ((n, P), (q, hs), (b, co)), g, _, rfl, hsp, fun q => absurd q (by decide), ⟨_, _, _, _, _, _, _, _, _, _, _, _, _, _, _, _, _, _, _, _, _, _, _, _, hB, hH, rfl⟩, rfl⟩
    · have hcl : s.vm.findClass "java/lang/IllegalArgumentException" = some ce.cls := hcl
      have hpass : ∀ ze ∈ ([⟨0, 12, 15, 21⟩] : List ExceptionTableEntry), covers ze 7 = false ∨ (ze.catchType ≠ 0 ∧ ∃ nm : String, (Cond.classLink RL ze.catchType nm).before [.ref ox, .int x, .int y, .int z, .ref ol].toArray s = true ∧ va_Nc "java/lang/IllegalArgumentException" nm s) := by
        intro ze hz
        rcases List.mem_cons.mp hz with rfl | hz
        · exact Or.inr ⟨by decide, _, hts (.classLink RL 21 "java/lang/IndexOutOfBoundsException") (by decide +kernel), hT.2.2.2.1.2.1⟩
        exact nomatch hz
      refine vx_catch (own := RL) (name := "java/lang/IllegalArgumentException") hown [⟨0, 12, 15, 21⟩] ⟨0, 12, 19, 13⟩ [] htab hpass (by decide) (by decide) (hts (.classLink RL 13 "java/lang/IllegalArgumentException") (by decide +kernel)) (va_Nw.use rfl hT.2.2.1.1) hcell hv hcl ?_
      refine lv_astore (lv' := [(5, .ref q9), (0, .ref ox), (1, .int x), (2, .int y), (3, .int z), (4, .ref ol)]) hx hb dL_resize_19 hl (by decide) rfl (fun ls hl => ?_)
      refine lv_iconst (v := 2) hx hb dL_resize_21 (by decide) ?_
      exact wc_iret hx hb hr hlocks hP hS rfl dL_resize_22 ⟨2, 0, ((n, P), (q, hs), (b, co)), g, _, rfl, hsp, fun q => absurd q (by decide), ⟨_, _, _, _, _, _, _, _, _, _, _, _, _, _, _, _, _, _, _, _, _, _, _, _, hB, hH, rfl⟩, rfl⟩
  · intro v w1 H1 locs1 hpost hP hD hS
    obtain ⟨r9, A9, rfl, hsp, kn8, kS8, kF8, kT8, rg8, pa8, vl8, aO8, aW8, aN8, aC8, aA8, aM8, aG8, aT8, aH8, aR8, aF8, aB8, aX8, f8, zf8, zn8, td8, hB, hH, rfl⟩ := hpost
    refine W.eq (g2 := F0 m 10 ls [.int r9, .int 0, .ref ol]) rfl ?_
    refine lv_i2l (v := (r9 : Int32).toInt64) hx hb dL_resize_10 rfl ?_
    refine va_last hx hb hK hP hD hS 23 2 rfl rfl in01 dL_resize_11 (fun H2 locs2 hP hD hS => ?_)
    have hP : va_P D vwCl ((ClW ox op xO xW xN xC xA xM xG xT xH xR xF xB xX ob oc oh hc hp ot yc yt cI cZ kn8 aO8 aW8 aN8 aC8 aA8 kS8 aM8 aG8 aT8 aH8 aR8 aF8 kF8 aB8 kT8 aX8 (nI A9.1.1) f8 (nI A9.2.1.1) zf8 zn8 A9.2.2.2 (nI A9.2.2.1) td8 rg8 pa8 vl8) ++ [(ol, LgE cJ (vp_updL g (0 : Int32).toNatClampNeg (r9 : Int32).toInt64))]) H2 := hP
    refine lv_goto (tgt := 23) hx hb dL_resize_12 (by decide) ?_
    refine lv_iconst (v := 0) hx hb dL_resize_23 (by decide) ?_
    exact wc_iret hx hb hr hlocks hP hS rfl dL_resize_24 ⟨0, r9, A9, _, _, rfl, hsp, fun _ => updL0, ⟨kn8, kS8, kF8, kT8, rg8, pa8, vl8, aO8, aW8, aN8, aC8, aA8, aM8, aG8, aT8, aH8, aR8, aF8, aB8, aX8, f8, zf8, zn8, td8, hB, hH, rfl⟩, rfl⟩
set_option maxHeartbeats 4000000 in
set_option maxRecDepth 100000 in
theorem c_L_place (l : Launch) (hfl : l.stackTraces = false) (D : va_G) {ox op xO xW xN xC xA xM xG xT xH xR xF xB xX ob oc oh hc hp ot yc yt ol : Nat} {cI cZ cJ : ClassId} {n q b : Nat} {P : Nat → Nat → Int32} {kn kS kF kT rg pa vl : Int32} {aO aW aN aC aA aM aG aT aH aR aF aB aX f zf zn co td : Nat → Int32} {hs : Nat → BS} (hA : aOK ((n, P), (q, hs), (b, co))) (hf : clB n P f) (hh : clH q hs zf zn) (x y : Int32) {g : Nat → Int64} : wc_M l yL_place wsL_place ({ frames := 7, cells := 1, slots := 6, locals := 140 } : Room) D ((ClW ox op xO xW xN xC xA xM xG xT xH xR xF xB xX ob oc oh hc hp ot yc yt cI cZ kn aO aW aN aC aA kS aM aG aT aH aR aF kF aB kT aX (nI n) f (nI q) zf zn co (nI b) td rg pa vl) ++ [(ol, LgE cJ g)]) [(cI, .int), (cZ, .boolean), (cJ, .long)] [.ref ox, .int x, .int y, .ref ol] (fun v w9 => ∃ (k r : Int32) (A9 : AS) (g9 : Nat → Int64) (wc : va_W), v = some (.int k) ∧ spPlace ((n, P), (q, hs), (b, co)) x y = (k, r, A9) ∧ (k = 0 → g9 0 = r.toInt64) ∧ ClP ox op xO xW xN xC xA xM xG xT xH xR xF xB xX ob oc oh hc hp ot yc yt cI cZ A9 wc ∧ w9 = wc ++ [(ol, LgE cJ g9)]) := by
  refine wc_of (cc := cL_place) (maxL := 5) (ret := some .int) (hh := [(0, 10, 13, 21), (0, 10, 17, 13), (0, 10, 21, 15)]) (by decide) rfl (Nat.le_of_ble_eq_true rfl) ?_
  intro p e s m below meth c hx hb hr hml hts hown hlocks htab hP hK hN hZ hT hD hS ls hl
  have hown : s.vm.findClass RL = some m.cls := hown
  have hl : lv_has ls 5 [(0, .ref ox), (1, .int x), (2, .int y), (3, .ref ol)] := hl
  refine lv_aload_n hx hb dL_place_0 rfl (lv_at hl 3 rfl) ?_
  refine lv_iconst (v := 0) hx hb dL_place_1 (by decide) ?_
  refine lv_aload_n hx hb dL_place_2 rfl (lv_at hl 0 rfl) ?_
  refine lv_iload_n hx hb dL_place_3 rfl (lv_at hl 1 rfl) ?_
  refine lv_iload_n hx hb dL_place_4 rfl (lv_at hl 2 rfl) ?_
  refine wa_callVX (As := [.int x, .int y]) (rest := [.int 0, .ref ol]) ⟨hx, hb, hml, hown, hts⟩ (c_X4_place (P := P) l hfl D hA hf hh x y) (cwV 2 hts gL_place_X4_place rfl rfl rfl (by decide +kernel) ⟨by decide, by decide⟩) hK hN hZ hT hP hD hS [0, 1] rfl (q0 := 0) rfl rfl rfl hl.1 rfl (Nat.le_of_ble_eq_true rfl) ⟨by decide, by decide⟩ dL_place_5 ?_ ?_
  · intro E ce q9 w1 H1 locs1 hpx hP hD hS hcell hv hcl
    obtain ⟨hd, _, _, _, _, _, _, _, _, _, _, _, _, _, _, _, _, _, _, _, _, _, _, _, _, hB, hH, rfl⟩ := hpx
    rcases hd with ⟨rfl, hsp⟩ | ⟨rfl, hsp⟩ | ⟨rfl, hsp⟩
    · have hcl : s.vm.findClass "java/lang/IndexOutOfBoundsException" = some ce.cls := hcl
      refine vx_catch (own := RL) (name := "java/lang/IndexOutOfBoundsException") hown [] ⟨0, 10, 13, 21⟩ [⟨0, 10, 17, 13⟩, ⟨0, 10, 21, 15⟩] htab (fun z hz => nomatch hz) (by decide) (by decide) (hts (.classLink RL 21 "java/lang/IndexOutOfBoundsException") (by decide +kernel)) (va_Nw.use rfl hT.2.2.1.2.2.1) hcell hv hcl ?_
      refine lv_astore (lv' := [(4, .ref q9), (0, .ref ox), (1, .int x), (2, .int y), (3, .ref ol)]) hx hb dL_place_13 hl (by decide) rfl (fun ls hl => ?_)
      refine lv_iconst (v := 1) hx hb dL_place_15 (by decide) ?_
      exact wc_iret hx hb hr hlocks hP hS rfl dL_place_16 ⟨1, 0, ((n, P), (q, hs), (b, co)), g, _, rfl, hsp, fun q => absurd q (by decide), ⟨_, _, _, _, _, _, _, _, _, _, _, _, _, _, _, _, _, _, _, _, _, _, _, _, hB, hH, rfl⟩, rfl⟩
    · have hcl : s.vm.findClass "java/lang/IllegalArgumentException" = some ce.cls := hcl
      have hpass : ∀ ze ∈ ([⟨0, 10, 13, 21⟩] : List ExceptionTableEntry), covers ze 5 = false ∨ (ze.catchType ≠ 0 ∧ ∃ nm : String, (Cond.classLink RL ze.catchType nm).before [.ref ox, .int x, .int y, .ref ol].toArray s = true ∧ va_Nc "java/lang/IllegalArgumentException" nm s) := by
        intro ze hz
        rcases List.mem_cons.mp hz with rfl | hz
        · exact Or.inr ⟨by decide, _, hts (.classLink RL 21 "java/lang/IndexOutOfBoundsException") (by decide +kernel), hT.2.2.2.1.2.1⟩
        exact nomatch hz
      refine vx_catch (own := RL) (name := "java/lang/IllegalArgumentException") hown [⟨0, 10, 13, 21⟩] ⟨0, 10, 17, 13⟩ [⟨0, 10, 21, 15⟩] htab hpass (by decide) (by decide) (hts (.classLink RL 13 "java/lang/IllegalArgumentException") (by decide +kernel)) (va_Nw.use rfl hT.2.2.1.1) hcell hv hcl ?_
      refine lv_astore (lv' := [(4, .ref q9), (0, .ref ox), (1, .int x), (2, .int y), (3, .ref ol)]) hx hb dL_place_17 hl (by decide) rfl (fun ls hl => ?_)
      refine lv_iconst (v := 2) hx hb dL_place_19 (by decide) ?_
      exact wc_iret hx hb hr hlocks hP hS rfl dL_place_20 ⟨2, 0, ((n, P), (q, hs), (b, co)), g, _, rfl, hsp, fun q => absurd q (by decide), ⟨_, _, _, _, _, _, _, _, _, _, _, _, _, _, _, _, _, _, _, _, _, _, _, _, hB, hH, rfl⟩, rfl⟩
    · have hcl : s.vm.findClass "java/lang/IllegalStateException" = some ce.cls := hcl
      have hpass : ∀ ze ∈ ([⟨0, 10, 13, 21⟩, ⟨0, 10, 17, 13⟩] : List ExceptionTableEntry), covers ze 5 = false ∨ (ze.catchType ≠ 0 ∧ ∃ nm : String, (Cond.classLink RL ze.catchType nm).before [.ref ox, .int x, .int y, .ref ol].toArray s = true ∧ va_Nc "java/lang/IllegalStateException" nm s) := by
        intro ze hz
        rcases List.mem_cons.mp hz with rfl | hz
        · exact Or.inr ⟨by decide, _, hts (.classLink RL 21 "java/lang/IndexOutOfBoundsException") (by decide +kernel), hT.2.2.2.1.2.2⟩
        rcases List.mem_cons.mp hz with rfl | hz
        · exact Or.inr ⟨by decide, _, hts (.classLink RL 13 "java/lang/IllegalArgumentException") (by decide +kernel), hT.2.2.2.1.1⟩
        exact nomatch hz
      refine vx_catch (own := RL) (name := "java/lang/IllegalStateException") hown [⟨0, 10, 13, 21⟩, ⟨0, 10, 17, 13⟩] ⟨0, 10, 21, 15⟩ [] htab hpass (by decide) (by decide) (hts (.classLink RL 15 "java/lang/IllegalStateException") (by decide +kernel)) (va_Nw.use rfl hT.2.2.1.2.1) hcell hv hcl ?_
      refine lv_astore (lv' := [(4, .ref q9), (0, .ref ox), (1, .int x), (2, .int y), (3, .ref ol)]) hx hb dL_place_21 hl (by decide) rfl (fun ls hl => ?_)
      refine lv_iconst (v := 3) hx hb dL_place_23 (by decide) ?_
      exact wc_iret hx hb hr hlocks hP hS rfl dL_place_24 ⟨3, 0, ((n, P), (q, hs), (b, co)), g, _, rfl, hsp, fun q => absurd q (by decide), ⟨_, _, _, _, _, _, _, _, _, _, _, _, _, _, _, _, _, _, _, _, _, _, _, _, hB, hH, rfl⟩, rfl⟩
  · intro v w1 H1 locs1 hpost hP hD hS
    obtain ⟨r9, A9, rfl, hsp, kn8, kS8, kF8, kT8, rg8, pa8, vl8, aO8, aW8, aN8, aC8, aA8, aM8, aG8, aT8, aH8, aR8, aF8, aB8, aX8, f8, zf8, zn8, td8, hB, hH, rfl⟩ := hpost
    refine W.eq (g2 := F0 m 8 ls [.int r9, .int 0, .ref ol]) rfl ?_
    refine lv_i2l (v := (r9 : Int32).toInt64) hx hb dL_place_8 rfl ?_
    refine va_last hx hb hK hP hD hS 23 2 rfl rfl in01 dL_place_9 (fun H2 locs2 hP hD hS => ?_)
    have hP : va_P D vwCl ((ClW ox op xO xW xN xC xA xM xG xT xH xR xF xB xX ob oc oh hc hp ot yc yt cI cZ kn8 aO8 aW8 aN8 aC8 aA8 kS8 aM8 aG8 aT8 aH8 aR8 aF8 kF8 aB8 kT8 aX8 (nI A9.1.1) f8 (nI A9.2.1.1) zf8 zn8 A9.2.2.2 (nI A9.2.2.1) td8 rg8 pa8 vl8) ++ [(ol, LgE cJ (vp_updL g (0 : Int32).toNatClampNeg (r9 : Int32).toInt64))]) H2 := hP
    refine lv_goto (tgt := 25) hx hb dL_place_10 (by decide) ?_
    refine lv_iconst (v := 0) hx hb dL_place_25 (by decide) ?_
    exact wc_iret hx hb hr hlocks hP hS rfl dL_place_26 ⟨0, r9, A9, _, _, rfl, hsp, fun _ => updL0, ⟨kn8, kS8, kF8, kT8, rg8, pa8, vl8, aO8, aW8, aN8, aC8, aA8, aM8, aG8, aT8, aH8, aR8, aF8, aB8, aX8, f8, zf8, zn8, td8, hB, hH, rfl⟩, rfl⟩
set_option maxHeartbeats 4000000 in
set_option maxRecDepth 100000 in
theorem c_L_drop (l : Launch) (hfl : l.stackTraces = false) (D : va_G) {ox op xO xW xN xC xA xM xG xT xH xR xF xB xX ob oc oh hc hp ot yc yt ol : Nat} {cI cZ cJ : ClassId} {n q b : Nat} {P : Nat → Nat → Int32} {kn kS kF kT rg pa vl : Int32} {aO aW aN aC aA aM aG aT aH aR aF aB aX f zf zn co td : Nat → Int32} {hs : Nat → BS} (hA : aOK ((n, P), (q, hs), (b, co))) (hf : clB n P f) (hh : clH q hs zf zn) (x : Int32) {g : Nat → Int64} : wc_M l yL_drop wsL_drop ({ frames := 7, cells := 1, slots := 6, locals := 122 } : Room) D ((ClW ox op xO xW xN xC xA xM xG xT xH xR xF xB xX ob oc oh hc hp ot yc yt cI cZ kn aO aW aN aC aA kS aM aG aT aH aR aF kF aB kT aX (nI n) f (nI q) zf zn co (nI b) td rg pa vl) ++ [(ol, LgE cJ g)]) [(cI, .int), (cZ, .boolean), (cJ, .long)] [.ref ox, .int x, .ref ol] (fun v w9 => ∃ (k r : Int32) (A9 : AS) (g9 : Nat → Int64) (wc : va_W), v = some (.int k) ∧ spDrop ((n, P), (q, hs), (b, co)) x = (k, r, A9) ∧ (k = 0 → g9 0 = r.toInt64) ∧ ClP ox op xO xW xN xC xA xM xG xT xH xR xF xB xX ob oc oh hc hp ot yc yt cI cZ A9 wc ∧ w9 = wc ++ [(ol, LgE cJ g9)]) := by
  refine wc_of (cc := cL_drop) (maxL := 4) (ret := some .int) (hh := [(0, 9, 12, 21)]) (by decide) rfl (Nat.le_of_ble_eq_true rfl) ?_
  intro p e s m below meth c hx hb hr hml hts hown hlocks htab hP hK hN hZ hT hD hS ls hl
  have hown : s.vm.findClass RL = some m.cls := hown
  have hl : lv_has ls 4 [(0, .ref ox), (1, .int x), (2, .ref ol)] := hl
  refine lv_aload_n hx hb dL_drop_0 rfl (lv_at hl 2 rfl) ?_
  refine lv_iconst (v := 0) hx hb dL_drop_1 (by decide) ?_
  refine lv_aload_n hx hb dL_drop_2 rfl (lv_at hl 0 rfl) ?_
  refine lv_iload_n hx hb dL_drop_3 rfl (lv_at hl 1 rfl) ?_
  refine wa_callVX (As := [.int x]) (rest := [.int 0, .ref ol]) ⟨hx, hb, hml, hown, hts⟩ (c_X4_drop (P := P) l hfl D hA hf hh x) (cwV 1 hts gL_drop_X4_drop rfl rfl rfl (by decide +kernel) ⟨by decide, by decide⟩) hK hN hZ hT hP hD hS [0, 1] rfl (q0 := 0) rfl rfl rfl hl.1 rfl (Nat.le_of_ble_eq_true rfl) ⟨by decide, by decide⟩ dL_drop_4 ?_ ?_
  · intro E ce q9 w1 H1 locs1 hpx hP hD hS hcell hv hcl
    obtain ⟨hd, _, _, _, _, _, _, _, _, _, _, _, _, _, _, _, _, _, _, _, _, _, _, _, _, hB, hH, rfl⟩ := hpx
    rcases hd with ⟨rfl, hsp⟩
    · have hcl : s.vm.findClass "java/lang/IndexOutOfBoundsException" = some ce.cls := hcl
      refine vx_catch (own := RL) (name := "java/lang/IndexOutOfBoundsException") hown [] ⟨0, 9, 12, 21⟩ [] htab (fun z hz => nomatch hz) (by decide) (by decide) (hts (.classLink RL 21 "java/lang/IndexOutOfBoundsException") (by decide +kernel)) (va_Nw.use rfl hT.2.2.1.2.2.1) hcell hv hcl ?_
      refine lv_astore_n (lv' := [(3, .ref q9), (0, .ref ox), (1, .int x), (2, .ref ol)]) hx hb dL_drop_12 rfl hl (by decide) rfl (fun ls hl => ?_)
      refine lv_iconst (v := 1) hx hb dL_drop_13 (by decide) ?_
      exact wc_iret hx hb hr hlocks hP hS rfl dL_drop_14 ⟨1, 0, ((n, P), (q, hs), (b, co)), g, _, rfl, hsp, fun q => absurd q (by decide), ⟨_, _, _, _, _, _, _, _, _, _, _, _, _, _, _, _, _, _, _, _, _, _, _, _, hB, hH, rfl⟩, rfl⟩
  · intro v w1 H1 locs1 hpost hP hD hS
    obtain ⟨r9, A9, rfl, hsp, kn8, kS8, kF8, kT8, rg8, pa8, vl8, aO8, aW8, aN8, aC8, aA8, aM8, aG8, aT8, aH8, aR8, aF8, aB8, aX8, f8, zf8, zn8, td8, hB, hH, rfl⟩ := hpost
    refine W.eq (g2 := F0 m 7 ls [.int r9, .int 0, .ref ol]) rfl ?_
    refine lv_i2l (v := (r9 : Int32).toInt64) hx hb dL_drop_7 rfl ?_
    refine va_last hx hb hK hP hD hS 23 2 rfl rfl in01 dL_drop_8 (fun H2 locs2 hP hD hS => ?_)
    have hP : va_P D vwCl ((ClW ox op xO xW xN xC xA xM xG xT xH xR xF xB xX ob oc oh hc hp ot yc yt cI cZ kn8 aO8 aW8 aN8 aC8 aA8 kS8 aM8 aG8 aT8 aH8 aR8 aF8 kF8 aB8 kT8 aX8 (nI A9.1.1) f8 (nI A9.2.1.1) zf8 zn8 A9.2.2.2 (nI A9.2.2.1) td8 rg8 pa8 vl8) ++ [(ol, LgE cJ (vp_updL g (0 : Int32).toNatClampNeg (r9 : Int32).toInt64))]) H2 := hP
    refine lv_goto (tgt := 15) hx hb dL_drop_9 (by decide) ?_
    refine lv_iconst (v := 0) hx hb dL_drop_15 (by decide) ?_
    exact wc_iret hx hb hr hlocks hP hS rfl dL_drop_16 ⟨0, r9, A9, _, _, rfl, hsp, fun _ => updL0, ⟨kn8, kS8, kF8, kT8, rg8, pa8, vl8, aO8, aW8, aN8, aC8, aA8, aM8, aG8, aT8, aH8, aR8, aF8, aB8, aX8, f8, zf8, zn8, td8, hB, hH, rfl⟩, rfl⟩
set_option maxHeartbeats 4000000 in
set_option maxRecDepth 100000 in
theorem c_L_push (l : Launch) (hfl : l.stackTraces = false) (D : va_G) {ox op xO xW xN xC xA xM xG xT xH xR xF xB xX ob oc oh hc hp ot yc yt ol : Nat} {cI cZ cJ : ClassId} {n q b : Nat} {P : Nat → Nat → Int32} {kn kS kF kT rg pa vl : Int32} {aO aW aN aC aA aM aG aT aH aR aF aB aX f zf zn co td : Nat → Int32} {hs : Nat → BS} (hA : aOK ((n, P), (q, hs), (b, co))) (hf : clB n P f) (hh : clH q hs zf zn) (x : Int32) {g : Nat → Int64} : wc_M l yL_push wsL_push ({ frames := 14, cells := 1, slots := 6, locals := 392 } : Room) D ((ClW ox op xO xW xN xC xA xM xG xT xH xR xF xB xX ob oc oh hc hp ot yc yt cI cZ kn aO aW aN aC aA kS aM aG aT aH aR aF kF aB kT aX (nI n) f (nI q) zf zn co (nI b) td rg pa vl) ++ [(ol, LgE cJ g)]) [(cI, .int), (cZ, .boolean), (cJ, .long)] [.ref ox, .int x, .ref ol] (fun v w9 => ∃ (k r : Int32) (A9 : AS) (g9 : Nat → Int64) (wc : va_W), v = some (.int k) ∧ spPush ((n, P), (q, hs), (b, co)) x = (k, r, A9) ∧ (k = 0 → g9 0 = r.toInt64) ∧ ClP ox op xO xW xN xC xA xM xG xT xH xR xF xB xX ob oc oh hc hp ot yc yt cI cZ A9 wc ∧ w9 = wc ++ [(ol, LgE cJ g9)]) := by
  refine wc_of (cc := cL_push) (maxL := 4) (ret := some .int) (hh := [(0, 9, 12, 21), (0, 9, 15, 15)]) (by decide) rfl (Nat.le_of_ble_eq_true rfl) ?_
  intro p e s m below meth c hx hb hr hml hts hown hlocks htab hP hK hN hZ hT hD hS ls hl
  have hown : s.vm.findClass RL = some m.cls := hown
  have hl : lv_has ls 4 [(0, .ref ox), (1, .int x), (2, .ref ol)] := hl
  refine lv_aload_n hx hb dL_push_0 rfl (lv_at hl 2 rfl) ?_
  refine lv_iconst (v := 0) hx hb dL_push_1 (by decide) ?_
  refine lv_aload_n hx hb dL_push_2 rfl (lv_at hl 0 rfl) ?_
  refine lv_iload_n hx hb dL_push_3 rfl (lv_at hl 1 rfl) ?_
  refine wa_callVX (As := [.int x]) (rest := [.int 0, .ref ol]) ⟨hx, hb, hml, hown, hts⟩ (c_X4_push (P := P) l hfl D hA hf hh x) (cwV 1 hts gL_push_X4_push rfl rfl rfl (by decide +kernel) ⟨by decide, by decide⟩) hK hN hZ hT hP hD hS [0, 1] rfl (q0 := 0) rfl rfl rfl hl.1 rfl (Nat.le_of_ble_eq_true rfl) ⟨by decide, by decide⟩ dL_push_4 ?_ ?_
  · intro E ce q9 w1 H1 locs1 hpx hP hD hS hcell hv hcl
    obtain ⟨hd, _, _, _, _, _, _, _, _, _, _, _, _, _, _, _, _, _, _, _, _, _, _, _, _, hB, hH, rfl⟩ := hpx
    rcases hd with ⟨rfl, hsp⟩ | ⟨rfl, hsp⟩
    · have hcl : s.vm.findClass "java/lang/IndexOutOfBoundsException" = some ce.cls := hcl
      refine vx_catch (own := RL) (name := "java/lang/IndexOutOfBoundsException") hown [] ⟨0, 9, 12, 21⟩ [⟨0, 9, 15, 15⟩] htab (fun z hz => nomatch hz) (by decide) (by decide) (hts (.classLink RL 21 "java/lang/IndexOutOfBoundsException") (by decide +kernel)) (va_Nw.use rfl hT.2.2.1.2.2.1) hcell hv hcl ?_
      refine lv_astore_n (lv' := [(3, .ref q9), (0, .ref ox), (1, .int x), (2, .ref ol)]) hx hb dL_push_12 rfl hl (by decide) rfl (fun ls hl => ?_)
      refine lv_iconst (v := 1) hx hb dL_push_13 (by decide) ?_
      exact wc_iret hx hb hr hlocks hP hS rfl dL_push_14 ⟨1, 0, ((n, P), (q, hs), (b, co)), g, _, rfl, hsp, fun q => absurd q (by decide), ⟨_, _, _, _, _, _, _, _, _, _, _, _, _, _, _, _, _, _, _, _, _, _, _, _, hB, hH, rfl⟩, rfl⟩
    · have hcl : s.vm.findClass "java/lang/IllegalStateException" = some ce.cls := hcl
      have hpass : ∀ ze ∈ ([⟨0, 9, 12, 21⟩] : List ExceptionTableEntry), covers ze 4 = false ∨ (ze.catchType ≠ 0 ∧ ∃ nm : String, (Cond.classLink RL ze.catchType nm).before [.ref ox, .int x, .ref ol].toArray s = true ∧ va_Nc "java/lang/IllegalStateException" nm s) := by
        intro ze hz
        rcases List.mem_cons.mp hz with rfl | hz
        · exact Or.inr ⟨by decide, _, hts (.classLink RL 21 "java/lang/IndexOutOfBoundsException") (by decide +kernel), hT.2.2.2.1.2.2⟩
        exact nomatch hz
      refine vx_catch (own := RL) (name := "java/lang/IllegalStateException") hown [⟨0, 9, 12, 21⟩] ⟨0, 9, 15, 15⟩ [] htab hpass (by decide) (by decide) (hts (.classLink RL 15 "java/lang/IllegalStateException") (by decide +kernel)) (va_Nw.use rfl hT.2.2.1.2.1) hcell hv hcl ?_
      refine lv_astore_n (lv' := [(3, .ref q9), (0, .ref ox), (1, .int x), (2, .ref ol)]) hx hb dL_push_15 rfl hl (by decide) rfl (fun ls hl => ?_)
      refine lv_iconst (v := 2) hx hb dL_push_16 (by decide) ?_
      exact wc_iret hx hb hr hlocks hP hS rfl dL_push_17 ⟨2, 0, ((n, P), (q, hs), (b, co)), g, _, rfl, hsp, fun q => absurd q (by decide), ⟨_, _, _, _, _, _, _, _, _, _, _, _, _, _, _, _, _, _, _, _, _, _, _, _, hB, hH, rfl⟩, rfl⟩
  · intro v w1 H1 locs1 hpost hP hD hS
    obtain ⟨r9, A9, rfl, hsp, kn8, kS8, kF8, kT8, rg8, pa8, vl8, aO8, aW8, aN8, aC8, aA8, aM8, aG8, aT8, aH8, aR8, aF8, aB8, aX8, f8, zf8, zn8, td8, hB, hH, rfl⟩ := hpost
    refine W.eq (g2 := F0 m 7 ls [.int r9, .int 0, .ref ol]) rfl ?_
    refine lv_i2l (v := (r9 : Int32).toInt64) hx hb dL_push_7 rfl ?_
    refine va_last hx hb hK hP hD hS 23 2 rfl rfl in01 dL_push_8 (fun H2 locs2 hP hD hS => ?_)
    have hP : va_P D vwCl ((ClW ox op xO xW xN xC xA xM xG xT xH xR xF xB xX ob oc oh hc hp ot yc yt cI cZ kn8 aO8 aW8 aN8 aC8 aA8 kS8 aM8 aG8 aT8 aH8 aR8 aF8 kF8 aB8 kT8 aX8 (nI A9.1.1) f8 (nI A9.2.1.1) zf8 zn8 A9.2.2.2 (nI A9.2.2.1) td8 rg8 pa8 vl8) ++ [(ol, LgE cJ (vp_updL g (0 : Int32).toNatClampNeg (r9 : Int32).toInt64))]) H2 := hP
    refine lv_goto (tgt := 18) hx hb dL_push_9 (by decide) ?_
    refine lv_iconst (v := 0) hx hb dL_push_18 (by decide) ?_
    exact wc_iret hx hb hr hlocks hP hS rfl dL_push_19 ⟨0, r9, A9, _, _, rfl, hsp, fun _ => updL0, ⟨kn8, kS8, kF8, kT8, rg8, pa8, vl8, aO8, aW8, aN8, aC8, aA8, aM8, aG8, aT8, aH8, aR8, aF8, aB8, aX8, f8, zf8, zn8, td8, hB, hH, rfl⟩, rfl⟩
set_option maxHeartbeats 4000000 in
set_option maxRecDepth 100000 in
theorem c_L_append (l : Launch) (hfl : l.stackTraces = false) (D : va_G) {ox op xO xW xN xC xA xM xG xT xH xR xF xB xX ob oc oh hc hp ot yc yt ol : Nat} {cI cZ cJ : ClassId} {n q b : Nat} {P : Nat → Nat → Int32} {kn kS kF kT rg pa vl : Int32} {aO aW aN aC aA aM aG aT aH aR aF aB aX f zf zn co td : Nat → Int32} {hs : Nat → BS} (hA : aOK ((n, P), (q, hs), (b, co))) (hf : clB n P f) (hh : clH q hs zf zn) (x : Int32) {g : Nat → Int64} : wc_M l yL_append wsL_append ({ frames := 7, cells := 1, slots := 6, locals := 103 } : Room) D ((ClW ox op xO xW xN xC xA xM xG xT xH xR xF xB xX ob oc oh hc hp ot yc yt cI cZ kn aO aW aN aC aA kS aM aG aT aH aR aF kF aB kT aX (nI n) f (nI q) zf zn co (nI b) td rg pa vl) ++ [(ol, LgE cJ g)]) [(cI, .int), (cZ, .boolean), (cJ, .long)] [.ref ox, .int x, .ref ol] (fun v w9 => ∃ (k r : Int32) (A9 : AS) (g9 : Nat → Int64) (wc : va_W), v = some (.int k) ∧ spAppend ((n, P), (q, hs), (b, co)) x = (k, r, A9) ∧ (k = 0 → g9 0 = r.toInt64) ∧ ClP ox op xO xW xN xC xA xM xG xT xH xR xF xB xX ob oc oh hc hp ot yc yt cI cZ A9 wc ∧ w9 = wc ++ [(ol, LgE cJ g9)]) := by
  refine wc_of (cc := cL_append) (maxL := 4) (ret := some .int) (hh := [(0, 9, 12, 13), (0, 9, 15, 15)]) (by decide) rfl (Nat.le_of_ble_eq_true rfl) ?_
  intro p e s m below meth c hx hb hr hml hts hown hlocks htab hP hK hN hZ hT hD hS ls hl
  have hown : s.vm.findClass RL = some m.cls := hown
  have hl : lv_has ls 4 [(0, .ref ox), (1, .int x), (2, .ref ol)] := hl
  refine lv_aload_n hx hb dL_append_0 rfl (lv_at hl 2 rfl) ?_
  refine lv_iconst (v := 0) hx hb dL_append_1 (by decide) ?_
  refine lv_aload_n hx hb dL_append_2 rfl (lv_at hl 0 rfl) ?_
  refine lv_iload_n hx hb dL_append_3 rfl (lv_at hl 1 rfl) ?_
  refine wa_callVX (As := [.int x]) (rest := [.int 0, .ref ol]) ⟨hx, hb, hml, hown, hts⟩ (c_X4_append (P := P) l hfl D hA hf hh x) (cwV 1 hts gL_append_X4_append rfl rfl rfl (by decide +kernel) ⟨by decide, by decide⟩) hK hN hZ hT hP hD hS [0, 1] rfl (q0 := 0) rfl rfl rfl hl.1 rfl (Nat.le_of_ble_eq_true rfl) ⟨by decide, by decide⟩ dL_append_4 ?_ ?_
  · intro E ce q9 w1 H1 locs1 hpx hP hD hS hcell hv hcl
    obtain ⟨hd, _, _, _, _, _, _, _, _, _, _, _, _, _, _, _, _, _, _, _, _, _, _, _, _, hB, hH, rfl⟩ := hpx
    rcases hd with ⟨rfl, hsp⟩ | ⟨rfl, hsp⟩
    · have hcl : s.vm.findClass "java/lang/IllegalArgumentException" = some ce.cls := hcl
      refine vx_catch (own := RL) (name := "java/lang/IllegalArgumentException") hown [] ⟨0, 9, 12, 13⟩ [⟨0, 9, 15, 15⟩] htab (fun z hz => nomatch hz) (by decide) (by decide) (hts (.classLink RL 13 "java/lang/IllegalArgumentException") (by decide +kernel)) (va_Nw.use rfl hT.2.2.1.1) hcell hv hcl ?_
      refine lv_astore_n (lv' := [(3, .ref q9), (0, .ref ox), (1, .int x), (2, .ref ol)]) hx hb dL_append_12 rfl hl (by decide) rfl (fun ls hl => ?_)
      refine lv_iconst (v := 1) hx hb dL_append_13 (by decide) ?_
      exact wc_iret hx hb hr hlocks hP hS rfl dL_append_14 ⟨1, 0, ((n, P), (q, hs), (b, co)), g, _, rfl, hsp, fun q => absurd q (by decide), ⟨_, _, _, _, _, _, _, _, _, _, _, _, _, _, _, _, _, _, _, _, _, _, _, _, hB, hH, rfl⟩, rfl⟩
    · have hcl : s.vm.findClass "java/lang/IllegalStateException" = some ce.cls := hcl
      have hpass : ∀ ze ∈ ([⟨0, 9, 12, 13⟩] : List ExceptionTableEntry), covers ze 4 = false ∨ (ze.catchType ≠ 0 ∧ ∃ nm : String, (Cond.classLink RL ze.catchType nm).before [.ref ox, .int x, .ref ol].toArray s = true ∧ va_Nc "java/lang/IllegalStateException" nm s) := by
        intro ze hz
        rcases List.mem_cons.mp hz with rfl | hz
        · exact Or.inr ⟨by decide, _, hts (.classLink RL 13 "java/lang/IllegalArgumentException") (by decide +kernel), hT.2.2.2.1.1⟩
        exact nomatch hz
      refine vx_catch (own := RL) (name := "java/lang/IllegalStateException") hown [⟨0, 9, 12, 13⟩] ⟨0, 9, 15, 15⟩ [] htab hpass (by decide) (by decide) (hts (.classLink RL 15 "java/lang/IllegalStateException") (by decide +kernel)) (va_Nw.use rfl hT.2.2.1.2.1) hcell hv hcl ?_
      refine lv_astore_n (lv' := [(3, .ref q9), (0, .ref ox), (1, .int x), (2, .ref ol)]) hx hb dL_append_15 rfl hl (by decide) rfl (fun ls hl => ?_)
      refine lv_iconst (v := 2) hx hb dL_append_16 (by decide) ?_
      exact wc_iret hx hb hr hlocks hP hS rfl dL_append_17 ⟨2, 0, ((n, P), (q, hs), (b, co)), g, _, rfl, hsp, fun q => absurd q (by decide), ⟨_, _, _, _, _, _, _, _, _, _, _, _, _, _, _, _, _, _, _, _, _, _, _, _, hB, hH, rfl⟩, rfl⟩
  · intro v w1 H1 locs1 hpost hP hD hS
    obtain ⟨r9, A9, rfl, hsp, kn8, kS8, kF8, kT8, rg8, pa8, vl8, aO8, aW8, aN8, aC8, aA8, aM8, aG8, aT8, aH8, aR8, aF8, aB8, aX8, f8, zf8, zn8, td8, hB, hH, rfl⟩ := hpost
    refine W.eq (g2 := F0 m 7 ls [.int r9, .int 0, .ref ol]) rfl ?_
    refine lv_i2l (v := (r9 : Int32).toInt64) hx hb dL_append_7 rfl ?_
    refine va_last hx hb hK hP hD hS 23 2 rfl rfl in01 dL_append_8 (fun H2 locs2 hP hD hS => ?_)
    have hP : va_P D vwCl ((ClW ox op xO xW xN xC xA xM xG xT xH xR xF xB xX ob oc oh hc hp ot yc yt cI cZ kn8 aO8 aW8 aN8 aC8 aA8 kS8 aM8 aG8 aT8 aH8 aR8 aF8 kF8 aB8 kT8 aX8 (nI A9.1.1) f8 (nI A9.2.1.1) zf8 zn8 A9.2.2.2 (nI A9.2.2.1) td8 rg8 pa8 vl8) ++ [(ol, LgE cJ (vp_updL g (0 : Int32).toNatClampNeg (r9 : Int32).toInt64))]) H2 := hP
    refine lv_goto (tgt := 18) hx hb dL_append_9 (by decide) ?_
    refine lv_iconst (v := 0) hx hb dL_append_18 (by decide) ?_
    exact wc_iret hx hb hr hlocks hP hS rfl dL_append_19 ⟨0, r9, A9, _, _, rfl, hsp, fun _ => updL0, ⟨kn8, kS8, kF8, kT8, rg8, pa8, vl8, aO8, aW8, aN8, aC8, aA8, aM8, aG8, aT8, aH8, aR8, aF8, aB8, aX8, f8, zf8, zn8, td8, hB, hH, rfl⟩, rfl⟩
set_option maxHeartbeats 4000000 in
set_option maxRecDepth 100000 in
theorem c_L_read (l : Launch) (hfl : l.stackTraces = false) (D : va_G) {ox op xO xW xN xC xA xM xG xT xH xR xF xB xX ob oc oh hc hp ot yc yt ol : Nat} {cI cZ cJ : ClassId} {n q b : Nat} {P : Nat → Nat → Int32} {kn kS kF kT rg pa vl : Int32} {aO aW aN aC aA aM aG aT aH aR aF aB aX f zf zn co td : Nat → Int32} {hs : Nat → BS} (hA : aOK ((n, P), (q, hs), (b, co))) (hf : clB n P f) (hh : clH q hs zf zn) {g : Nat → Int64} : wc_M l yL_read wsL_read ({ frames := 7, cells := 1, slots := 6, locals := 144 } : Room) D ((ClW ox op xO xW xN xC xA xM xG xT xH xR xF xB xX ob oc oh hc hp ot yc yt cI cZ kn aO aW aN aC aA kS aM aG aT aH aR aF kF aB kT aX (nI n) f (nI q) zf zn co (nI b) td rg pa vl) ++ [(ol, LgE cJ g)]) [(cI, .int), (cZ, .boolean), (cJ, .long)] [.ref ox, .ref ol] (fun v w9 => ∃ (k r : Int32) (A9 : AS) (g9 : Nat → Int64) (wc : va_W), v = some (.int k) ∧ spRead ((n, P), (q, hs), (b, co)) td = (k, r, A9) ∧ (k = 0 → g9 0 = r.toInt64) ∧ ClP ox op xO xW xN xC xA xM xG xT xH xR xF xB xX ob oc oh hc hp ot yc yt cI cZ A9 wc ∧ w9 = wc ++ [(ol, LgE cJ g9)]) := by
  refine wc_of (cc := cL_read) (maxL := 3) (ret := some .int) (hh := [(0, 8, 11, 13)]) (by decide) rfl (Nat.le_of_ble_eq_true rfl) ?_
  intro p e s m below meth c hx hb hr hml hts hown hlocks htab hP hK hN hZ hT hD hS ls hl
  have hown : s.vm.findClass RL = some m.cls := hown
  have hl : lv_has ls 3 [(0, .ref ox), (1, .ref ol)] := hl
  refine lv_aload_n hx hb dL_read_0 rfl (lv_at hl 1 rfl) ?_
  refine lv_iconst (v := 0) hx hb dL_read_1 (by decide) ?_
  refine lv_aload_n hx hb dL_read_2 rfl (lv_at hl 0 rfl) ?_
  refine wa_callVX (As := []) (rest := [.int 0, .ref ol]) ⟨hx, hb, hml, hown, hts⟩ (c_X4_read (P := P) l hfl D hA hf hh) (cwV 0 hts gL_read_X4_read rfl rfl rfl (by decide +kernel) ⟨by decide, by decide⟩) hK hN hZ hT hP hD hS [0, 1] rfl (q0 := 0) rfl rfl rfl hl.1 rfl (Nat.le_of_ble_eq_true rfl) ⟨by decide, by decide⟩ dL_read_3 ?_ ?_
  · intro E ce q9 w1 H1 locs1 hpx hP hD hS hcell hv hcl
    obtain ⟨hd, _, _, _, _, _, _, _, _, _, _, _, _, _, _, _, _, _, _, _, _, _, _, _, _, hB, hH, rfl⟩ := hpx
    rcases hd with ⟨rfl, hsp⟩
    · have hcl : s.vm.findClass "java/lang/IllegalArgumentException" = some ce.cls := hcl
      refine vx_catch (own := RL) (name := "java/lang/IllegalArgumentException") hown [] ⟨0, 8, 11, 13⟩ [] htab (fun z hz => nomatch hz) (by decide) (by decide) (hts (.classLink RL 13 "java/lang/IllegalArgumentException") (by decide +kernel)) (va_Nw.use rfl hT.2.2.1.1) hcell hv hcl ?_
      refine lv_astore_n (lv' := [(2, .ref q9), (0, .ref ox), (1, .ref ol)]) hx hb dL_read_11 rfl hl (by decide) rfl (fun ls hl => ?_)
      refine lv_iconst (v := 1) hx hb dL_read_12 (by decide) ?_
      exact wc_iret hx hb hr hlocks hP hS rfl dL_read_13 ⟨1, 0, ((n, P), (q, hs), (b, co)), g, _, rfl, hsp, fun q => absurd q (by decide), ⟨_, _, _, _, _, _, _, _, _, _, _, _, _, _, _, _, _, _, _, _, _, _, _, _, hB, hH, rfl⟩, rfl⟩
  · intro v w1 H1 locs1 hpost hP hD hS
    obtain ⟨r9, A9, rfl, hsp, kn8, kS8, kF8, kT8, rg8, pa8, vl8, aO8, aW8, aN8, aC8, aA8, aM8, aG8, aT8, aH8, aR8, aF8, aB8, aX8, f8, zf8, zn8, td8, hB, hH, rfl⟩ := hpost
    refine W.eq (g2 := F0 m 6 ls [.int r9, .int 0, .ref ol]) rfl ?_
    refine lv_i2l (v := (r9 : Int32).toInt64) hx hb dL_read_6 rfl ?_
    refine va_last hx hb hK hP hD hS 23 2 rfl rfl in01 dL_read_7 (fun H2 locs2 hP hD hS => ?_)
    have hP : va_P D vwCl ((ClW ox op xO xW xN xC xA xM xG xT xH xR xF xB xX ob oc oh hc hp ot yc yt cI cZ kn8 aO8 aW8 aN8 aC8 aA8 kS8 aM8 aG8 aT8 aH8 aR8 aF8 kF8 aB8 kT8 aX8 (nI A9.1.1) f8 (nI A9.2.1.1) zf8 zn8 A9.2.2.2 (nI A9.2.2.1) td8 rg8 pa8 vl8) ++ [(ol, LgE cJ (vp_updL g (0 : Int32).toNatClampNeg (r9 : Int32).toInt64))]) H2 := hP
    refine lv_goto (tgt := 14) hx hb dL_read_8 (by decide) ?_
    refine lv_iconst (v := 0) hx hb dL_read_14 (by decide) ?_
    exact wc_iret hx hb hr hlocks hP hS rfl dL_read_15 ⟨0, r9, A9, _, _, rfl, hsp, fun _ => updL0, ⟨kn8, kS8, kF8, kT8, rg8, pa8, vl8, aO8, aW8, aN8, aC8, aA8, aM8, aG8, aT8, aH8, aR8, aF8, aB8, aX8, f8, zf8, zn8, td8, hB, hH, rfl⟩, rfl⟩
set_option maxHeartbeats 4000000 in
set_option maxRecDepth 100000 in
theorem c_L_undo (l : Launch) (hfl : l.stackTraces = false) (D : va_G) {ox op xO xW xN xC xA xM xG xT xH xR xF xB xX ob oc oh hc hp ot yc yt ol : Nat} {cI cZ cJ : ClassId} {n q b : Nat} {P : Nat → Nat → Int32} {kn kS kF kT rg pa vl : Int32} {aO aW aN aC aA aM aG aT aH aR aF aB aX f zf zn co td : Nat → Int32} {hs : Nat → BS} (hA : aOK ((n, P), (q, hs), (b, co))) (hf : clB n P f) (hh : clH q hs zf zn) {g : Nat → Int64} : wc_M l yL_undo wsL_undo ({ frames := 7, cells := 1, slots := 6, locals := 102 } : Room) D ((ClW ox op xO xW xN xC xA xM xG xT xH xR xF xB xX ob oc oh hc hp ot yc yt cI cZ kn aO aW aN aC aA kS aM aG aT aH aR aF kF aB kT aX (nI n) f (nI q) zf zn co (nI b) td rg pa vl) ++ [(ol, LgE cJ g)]) [(cI, .int), (cZ, .boolean), (cJ, .long)] [.ref ox, .ref ol] (fun v w9 => ∃ (k r : Int32) (A9 : AS) (g9 : Nat → Int64) (wc : va_W), v = some (.int k) ∧ spUndo ((n, P), (q, hs), (b, co)) = (k, r, A9) ∧ (k = 0 → g9 0 = r.toInt64) ∧ ClP ox op xO xW xN xC xA xM xG xT xH xR xF xB xX ob oc oh hc hp ot yc yt cI cZ A9 wc ∧ w9 = wc ++ [(ol, LgE cJ g9)]) := by
  refine wc_of (cc := cL_undo) (maxL := 3) (ret := some .int) (hh := [(0, 8, 11, 15)]) (by decide) rfl (Nat.le_of_ble_eq_true rfl) ?_
  intro p e s m below meth c hx hb hr hml hts hown hlocks htab hP hK hN hZ hT hD hS ls hl
  have hown : s.vm.findClass RL = some m.cls := hown
  have hl : lv_has ls 3 [(0, .ref ox), (1, .ref ol)] := hl
  refine lv_aload_n hx hb dL_undo_0 rfl (lv_at hl 1 rfl) ?_
  refine lv_iconst (v := 0) hx hb dL_undo_1 (by decide) ?_
  refine lv_aload_n hx hb dL_undo_2 rfl (lv_at hl 0 rfl) ?_
  refine wa_callVX (As := []) (rest := [.int 0, .ref ol]) ⟨hx, hb, hml, hown, hts⟩ (c_X4_undo (P := P) l hfl D hA hf hh) (cwV 0 hts gL_undo_X4_undo rfl rfl rfl (by decide +kernel) ⟨by decide, by decide⟩) hK hN hZ hT hP hD hS [0, 1] rfl (q0 := 0) rfl rfl rfl hl.1 rfl (Nat.le_of_ble_eq_true rfl) ⟨by decide, by decide⟩ dL_undo_3 ?_ ?_
  · intro E ce q9 w1 H1 locs1 hpx hP hD hS hcell hv hcl
    obtain ⟨hd, _, _, _, _, _, _, _, _, _, _, _, _, _, _, _, _, _, _, _, _, _, _, _, _, hB, hH, rfl⟩ := hpx
    rcases hd with ⟨rfl, hsp⟩
    · have hcl : s.vm.findClass "java/lang/IllegalStateException" = some ce.cls := hcl
      refine vx_catch (own := RL) (name := "java/lang/IllegalStateException") hown [] ⟨0, 8, 11, 15⟩ [] htab (fun z hz => nomatch hz) (by decide) (by decide) (hts (.classLink RL 15 "java/lang/IllegalStateException") (by decide +kernel)) (va_Nw.use rfl hT.2.2.1.2.1) hcell hv hcl ?_
      refine lv_astore_n (lv' := [(2, .ref q9), (0, .ref ox), (1, .ref ol)]) hx hb dL_undo_11 rfl hl (by decide) rfl (fun ls hl => ?_)
      refine lv_iconst (v := 1) hx hb dL_undo_12 (by decide) ?_
      exact wc_iret hx hb hr hlocks hP hS rfl dL_undo_13 ⟨1, 0, ((n, P), (q, hs), (b, co)), g, _, rfl, hsp, fun q => absurd q (by decide), ⟨_, _, _, _, _, _, _, _, _, _, _, _, _, _, _, _, _, _, _, _, _, _, _, _, hB, hH, rfl⟩, rfl⟩
  · intro v w1 H1 locs1 hpost hP hD hS
    obtain ⟨r9, A9, rfl, hsp, kn8, kS8, kF8, kT8, rg8, pa8, vl8, aO8, aW8, aN8, aC8, aA8, aM8, aG8, aT8, aH8, aR8, aF8, aB8, aX8, f8, zf8, zn8, td8, hB, hH, rfl⟩ := hpost
    refine W.eq (g2 := F0 m 6 ls [.int r9, .int 0, .ref ol]) rfl ?_
    refine lv_i2l (v := (r9 : Int32).toInt64) hx hb dL_undo_6 rfl ?_
    refine va_last hx hb hK hP hD hS 23 2 rfl rfl in01 dL_undo_7 (fun H2 locs2 hP hD hS => ?_)
    have hP : va_P D vwCl ((ClW ox op xO xW xN xC xA xM xG xT xH xR xF xB xX ob oc oh hc hp ot yc yt cI cZ kn8 aO8 aW8 aN8 aC8 aA8 kS8 aM8 aG8 aT8 aH8 aR8 aF8 kF8 aB8 kT8 aX8 (nI A9.1.1) f8 (nI A9.2.1.1) zf8 zn8 A9.2.2.2 (nI A9.2.2.1) td8 rg8 pa8 vl8) ++ [(ol, LgE cJ (vp_updL g (0 : Int32).toNatClampNeg (r9 : Int32).toInt64))]) H2 := hP
    refine lv_goto (tgt := 14) hx hb dL_undo_8 (by decide) ?_
    refine lv_iconst (v := 0) hx hb dL_undo_14 (by decide) ?_
    exact wc_iret hx hb hr hlocks hP hS rfl dL_undo_15 ⟨0, r9, A9, _, _, rfl, hsp, fun _ => updL0, ⟨kn8, kS8, kF8, kT8, rg8, pa8, vl8, aO8, aW8, aN8, aC8, aA8, aM8, aG8, aT8, aH8, aR8, aF8, aB8, aX8, f8, zf8, zn8, td8, hB, hH, rfl⟩, rfl⟩
set_option maxHeartbeats 4000000 in
set_option maxRecDepth 100000 in
theorem c_L_point (l : Launch) (hfl : l.stackTraces = false) (D : va_G) {ox op xO xW xN xC xA xM xG xT xH xR xF xB xX ob oc oh hc hp ot yc yt ol : Nat} {cI cZ cJ : ClassId} {n q b : Nat} {P : Nat → Nat → Int32} {kn kS kF kT rg pa vl : Int32} {aO aW aN aC aA aM aG aT aH aR aF aB aX f zf zn co td : Nat → Int32} {hs : Nat → BS} (hA : aOK ((n, P), (q, hs), (b, co))) (hf : clB n P f) (hh : clH q hs zf zn) (x y : Int32) {g : Nat → Int64} : wc_M l yL_point wsL_point ({ frames := 7, cells := 1, slots := 6, locals := 162 } : Room) D ((ClW ox op xO xW xN xC xA xM xG xT xH xR xF xB xX ob oc oh hc hp ot yc yt cI cZ kn aO aW aN aC aA kS aM aG aT aH aR aF kF aB kT aX (nI n) f (nI q) zf zn co (nI b) td rg pa vl) ++ [(ol, LgE cJ g)]) [(cI, .int), (cZ, .boolean), (cJ, .long)] [.ref ox, .int x, .int y, .ref ol] (fun v w9 => ∃ (k r : Int32) (A9 : AS) (g9 : Nat → Int64) (wc : va_W), v = some (.int k) ∧ spPoint ((n, P), (q, hs), (b, co)) x y = (k, r, A9) ∧ (k = 0 → g9 0 = r.toInt64) ∧ ClP ox op xO xW xN xC xA xM xG xT xH xR xF xB xX ob oc oh hc hp ot yc yt cI cZ A9 wc ∧ w9 = wc ++ [(ol, LgE cJ g9)]) := by
  refine wc_of (cc := cL_point) (maxL := 5) (ret := some .int) (hh := [(0, 10, 13, 21), (0, 10, 17, 13)]) (by decide) rfl (Nat.le_of_ble_eq_true rfl) ?_
  intro p e s m below meth c hx hb hr hml hts hown hlocks htab hP hK hN hZ hT hD hS ls hl
  have hown : s.vm.findClass RL = some m.cls := hown
  have hl : lv_has ls 5 [(0, .ref ox), (1, .int x), (2, .int y), (3, .ref ol)] := hl
  refine lv_aload_n hx hb dL_point_0 rfl (lv_at hl 3 rfl) ?_
  refine lv_iconst (v := 0) hx hb dL_point_1 (by decide) ?_
  refine lv_aload_n hx hb dL_point_2 rfl (lv_at hl 0 rfl) ?_
  refine lv_iload_n hx hb dL_point_3 rfl (lv_at hl 1 rfl) ?_
  refine lv_iload_n hx hb dL_point_4 rfl (lv_at hl 2 rfl) ?_
  refine wa_callVX (As := [.int x, .int y]) (rest := [.int 0, .ref ol]) ⟨hx, hb, hml, hown, hts⟩ (c_X4_point (P := P) l hfl D hA hf hh x y) (cwV 2 hts gL_point_X4_point rfl rfl rfl (by decide +kernel) ⟨by decide, by decide⟩) hK hN hZ hT hP hD hS [0, 1] rfl (q0 := 0) rfl rfl rfl hl.1 rfl (Nat.le_of_ble_eq_true rfl) ⟨by decide, by decide⟩ dL_point_5 ?_ ?_
  · intro E ce q9 w1 H1 locs1 hpx hP hD hS hcell hv hcl
    obtain ⟨hd, _, _, _, _, _, _, _, _, _, _, _, _, _, _, _, _, _, _, _, _, _, _, _, _, hB, hH, rfl⟩ := hpx
    rcases hd with ⟨rfl, hsp⟩ | ⟨rfl, hsp⟩
    · have hcl : s.vm.findClass "java/lang/IndexOutOfBoundsException" = some ce.cls := hcl
      refine vx_catch (own := RL) (name := "java/lang/IndexOutOfBoundsException") hown [] ⟨0, 10, 13, 21⟩ [⟨0, 10, 17, 13⟩] htab (fun z hz => nomatch hz) (by decide) (by decide) (hts (.classLink RL 21 "java/lang/IndexOutOfBoundsException") (by decide +kernel)) (va_Nw.use rfl hT.2.2.1.2.2.1) hcell hv hcl ?_
      refine lv_astore (lv' := [(4, .ref q9), (0, .ref ox), (1, .int x), (2, .int y), (3, .ref ol)]) hx hb dL_point_13 hl (by decide) rfl (fun ls hl => ?_)
      refine lv_iconst (v := 1) hx hb dL_point_15 (by decide) ?_
      exact wc_iret hx hb hr hlocks hP hS rfl dL_point_16 ⟨1, 0, ((n, P), (q, hs), (b, co)), g, _, rfl, hsp, fun q => absurd q (by decide), ⟨_, _, _, _, _, _, _, _, _, _, _, _, _, _, _, _, _, _, _, _, _, _, _, _, hB, hH, rfl⟩, rfl⟩
    · have hcl : s.vm.findClass "java/lang/IllegalArgumentException" = some ce.cls := hcl
      have hpass : ∀ ze ∈ ([⟨0, 10, 13, 21⟩] : List ExceptionTableEntry), covers ze 5 = false ∨ (ze.catchType ≠ 0 ∧ ∃ nm : String, (Cond.classLink RL ze.catchType nm).before [.ref ox, .int x, .int y, .ref ol].toArray s = true ∧ va_Nc "java/lang/IllegalArgumentException" nm s) := by
        intro ze hz
        rcases List.mem_cons.mp hz with rfl | hz
        · exact Or.inr ⟨by decide, _, hts (.classLink RL 21 "java/lang/IndexOutOfBoundsException") (by decide +kernel), hT.2.2.2.1.2.1⟩
        exact nomatch hz
      refine vx_catch (own := RL) (name := "java/lang/IllegalArgumentException") hown [⟨0, 10, 13, 21⟩] ⟨0, 10, 17, 13⟩ [] htab hpass (by decide) (by decide) (hts (.classLink RL 13 "java/lang/IllegalArgumentException") (by decide +kernel)) (va_Nw.use rfl hT.2.2.1.1) hcell hv hcl ?_
      refine lv_astore (lv' := [(4, .ref q9), (0, .ref ox), (1, .int x), (2, .int y), (3, .ref ol)]) hx hb dL_point_17 hl (by decide) rfl (fun ls hl => ?_)
      refine lv_iconst (v := 2) hx hb dL_point_19 (by decide) ?_
      exact wc_iret hx hb hr hlocks hP hS rfl dL_point_20 ⟨2, 0, ((n, P), (q, hs), (b, co)), g, _, rfl, hsp, fun q => absurd q (by decide), ⟨_, _, _, _, _, _, _, _, _, _, _, _, _, _, _, _, _, _, _, _, _, _, _, _, hB, hH, rfl⟩, rfl⟩
  · intro v w1 H1 locs1 hpost hP hD hS
    obtain ⟨r9, A9, rfl, hsp, kn8, kS8, kF8, kT8, rg8, pa8, vl8, aO8, aW8, aN8, aC8, aA8, aM8, aG8, aT8, aH8, aR8, aF8, aB8, aX8, f8, zf8, zn8, td8, hB, hH, rfl⟩ := hpost
    refine W.eq (g2 := F0 m 8 ls [.int r9, .int 0, .ref ol]) rfl ?_
    refine lv_i2l (v := (r9 : Int32).toInt64) hx hb dL_point_8 rfl ?_
    refine va_last hx hb hK hP hD hS 23 2 rfl rfl in01 dL_point_9 (fun H2 locs2 hP hD hS => ?_)
    have hP : va_P D vwCl ((ClW ox op xO xW xN xC xA xM xG xT xH xR xF xB xX ob oc oh hc hp ot yc yt cI cZ kn8 aO8 aW8 aN8 aC8 aA8 kS8 aM8 aG8 aT8 aH8 aR8 aF8 kF8 aB8 kT8 aX8 (nI A9.1.1) f8 (nI A9.2.1.1) zf8 zn8 A9.2.2.2 (nI A9.2.2.1) td8 rg8 pa8 vl8) ++ [(ol, LgE cJ (vp_updL g (0 : Int32).toNatClampNeg (r9 : Int32).toInt64))]) H2 := hP
    refine lv_goto (tgt := 21) hx hb dL_point_10 (by decide) ?_
    refine lv_iconst (v := 0) hx hb dL_point_21 (by decide) ?_
    exact wc_iret hx hb hr hlocks hP hS rfl dL_point_22 ⟨0, r9, A9, _, _, rfl, hsp, fun _ => updL0, ⟨kn8, kS8, kF8, kT8, rg8, pa8, vl8, aO8, aW8, aN8, aC8, aA8, aM8, aG8, aT8, aH8, aR8, aF8, aB8, aX8, f8, zf8, zn8, td8, hB, hH, rfl⟩, rfl⟩
set_option maxHeartbeats 4000000 in
set_option maxRecDepth 100000 in
theorem c_L_clash (l : Launch) (hfl : l.stackTraces = false) (D : va_G) {ox op xO xW xN xC xA xM xG xT xH xR xF xB xX ob oc oh hc hp ot yc yt ol : Nat} {cI cZ cJ : ClassId} {n q b : Nat} {P : Nat → Nat → Int32} {kn kS kF kT rg pa vl : Int32} {aO aW aN aC aA aM aG aT aH aR aF aB aX f zf zn co td : Nat → Int32} {hs : Nat → BS} (hA : aOK ((n, P), (q, hs), (b, co))) (hf : clB n P f) (hh : clH q hs zf zn) (x y u z : Int32) {g : Nat → Int64} : wc_M l yL_clash wsL_clash ({ frames := 7, cells := 1, slots := 6, locals := 106 } : Room) D ((ClW ox op xO xW xN xC xA xM xG xT xH xR xF xB xX ob oc oh hc hp ot yc yt cI cZ kn aO aW aN aC aA kS aM aG aT aH aR aF kF aB kT aX (nI n) f (nI q) zf zn co (nI b) td rg pa vl) ++ [(ol, LgE cJ g)]) [(cI, .int), (cZ, .boolean), (cJ, .long)] [.ref ox, .int x, .int y, .int u, .int z, .ref ol] (fun v w9 => ∃ (k r : Int32) (A9 : AS) (g9 : Nat → Int64) (wc : va_W), v = some (.int k) ∧ spClash ((n, P), (q, hs), (b, co)) x y u z = (k, r, A9) ∧ (k = 0 → g9 0 = r.toInt64) ∧ ClP ox op xO xW xN xC xA xM xG xT xH xR xF xB xX ob oc oh hc hp ot yc yt cI cZ A9 wc ∧ w9 = wc ++ [(ol, LgE cJ g9)]) := by
  refine wc_of (cc := cL_clash) (maxL := 7) (ret := some .int) (hh := [(0, 14, 17, 21), (0, 14, 21, 13)]) (by decide) rfl (Nat.le_of_ble_eq_true rfl) ?_
  intro p e s m below meth c hx hb hr hml hts hown hlocks htab hP hK hN hZ hT hD hS ls hl
  have hown : s.vm.findClass RL = some m.cls := hown
  have hl : lv_has ls 7 [(0, .ref ox), (1, .int x), (2, .int y), (3, .int u), (4, .int z), (5, .ref ol)] := hl
  refine lv_aload hx hb dL_clash_0 (lv_at hl 5 rfl) ?_
  refine lv_iconst (v := 0) hx hb dL_clash_2 (by decide) ?_
  refine lv_aload_n hx hb dL_clash_3 rfl (lv_at hl 0 rfl) ?_
  refine lv_iload_n hx hb dL_clash_4 rfl (lv_at hl 1 rfl) ?_
  refine lv_iload_n hx hb dL_clash_5 rfl (lv_at hl 2 rfl) ?_
  refine lv_iload_n hx hb dL_clash_6 rfl (lv_at hl 3 rfl) ?_
  refine lv_iload hx hb dL_clash_7 (lv_at hl 4 rfl) ?_
  refine wa_callVX (As := [.int x, .int y, .int u, .int z]) (rest := [.int 0, .ref ol]) ⟨hx, hb, hml, hown, hts⟩ (c_X4_clash (P := P) l hfl D hA hf hh x y u z) (cwV 4 hts gL_clash_X4_clash rfl rfl rfl (by decide +kernel) ⟨by decide, by decide⟩) hK hN hZ hT hP hD hS [0, 1] rfl (q0 := 0) rfl rfl rfl hl.1 rfl (Nat.le_of_ble_eq_true rfl) ⟨by decide, by decide⟩ dL_clash_9 ?_ ?_
  · intro E ce q9 w1 H1 locs1 hpx hP hD hS hcell hv hcl
    obtain ⟨hd, _, _, _, _, _, _, _, _, _, _, _, _, _, _, _, _, _, _, _, _, _, _, _, _, hB, hH, rfl⟩ := hpx
    rcases hd with ⟨rfl, hsp⟩ | ⟨rfl, hsp⟩
    · have hcl : s.vm.findClass "java/lang/IndexOutOfBoundsException" = some ce.cls := hcl
      refine vx_catch (own := RL) (name := "java/lang/IndexOutOfBoundsException") hown [] ⟨0, 14, 17, 21⟩ [⟨0, 14, 21, 13⟩] htab (fun z hz => nomatch hz) (by decide) (by decide) (hts (.classLink RL 21 "java/lang/IndexOutOfBoundsException") (by decide +kernel)) (va_Nw.use rfl hT.2.2.1.2.2.1) hcell hv hcl ?_
      refine lv_astore (lv' := [(6, .ref q9), (0, .ref ox), (1, .int x), (2, .int y), (3, .int u), (4, .int z), (5, .ref ol)]) hx hb dL_clash_17 hl (by decide) rfl (fun ls hl => ?_)
      refine lv_iconst (v := 1) hx hb dL_clash_19 (by decide) ?_
      exact wc_iret hx hb hr hlocks hP hS rfl dL_clash_20 ⟨1, 0, ((n, P), (q, hs), (b, co)), g, _, rfl, hsp, fun q => absurd q (by decide), ⟨_, _, _, _, _, _, _, _, _, _, _, _, _, _, _, _, _, _, _, _, _, _, _, _, hB, hH, rfl⟩, rfl⟩
    · have hcl : s.vm.findClass "java/lang/IllegalArgumentException" = some ce.cls := hcl
      have hpass : ∀ ze ∈ ([⟨0, 14, 17, 21⟩] : List ExceptionTableEntry), covers ze 9 = false ∨ (ze.catchType ≠ 0 ∧ ∃ nm : String, (Cond.classLink RL ze.catchType nm).before [.ref ox, .int x, .int y, .int u, .int z, .ref ol].toArray s = true ∧ va_Nc "java/lang/IllegalArgumentException" nm s) := by
        intro ze hz
        rcases List.mem_cons.mp hz with rfl | hz
        · exact Or.inr ⟨by decide, _, hts (.classLink RL 21 "java/lang/IndexOutOfBoundsException") (by decide +kernel), hT.2.2.2.1.2.1⟩
        exact nomatch hz
      refine vx_catch (own := RL) (name := "java/lang/IllegalArgumentException") hown [⟨0, 14, 17, 21⟩] ⟨0, 14, 21, 13⟩ [] htab hpass (by decide) (by decide) (hts (.classLink RL 13 "java/lang/IllegalArgumentException") (by decide +kernel)) (va_Nw.use rfl hT.2.2.1.1) hcell hv hcl ?_
      refine lv_astore (lv' := [(6, .ref q9), (0, .ref ox), (1, .int x), (2, .int y), (3, .int u), (4, .int z), (5, .ref ol)]) hx hb dL_clash_21 hl (by decide) rfl (fun ls hl => ?_)
      refine lv_iconst (v := 2) hx hb dL_clash_23 (by decide) ?_
      exact wc_iret hx hb hr hlocks hP hS rfl dL_clash_24 ⟨2, 0, ((n, P), (q, hs), (b, co)), g, _, rfl, hsp, fun q => absurd q (by decide), ⟨_, _, _, _, _, _, _, _, _, _, _, _, _, _, _, _, _, _, _, _, _, _, _, _, hB, hH, rfl⟩, rfl⟩
  · intro v w1 H1 locs1 hpost hP hD hS
    obtain ⟨r9, A9, rfl, hsp, kn8, kS8, kF8, kT8, rg8, pa8, vl8, aO8, aW8, aN8, aC8, aA8, aM8, aG8, aT8, aH8, aR8, aF8, aB8, aX8, f8, zf8, zn8, td8, hB, hH, rfl⟩ := hpost
    refine W.eq (g2 := F0 m 12 ls [.int r9, .int 0, .ref ol]) rfl ?_
    refine lv_i2l (v := (r9 : Int32).toInt64) hx hb dL_clash_12 rfl ?_
    refine va_last hx hb hK hP hD hS 23 2 rfl rfl in01 dL_clash_13 (fun H2 locs2 hP hD hS => ?_)
    have hP : va_P D vwCl ((ClW ox op xO xW xN xC xA xM xG xT xH xR xF xB xX ob oc oh hc hp ot yc yt cI cZ kn8 aO8 aW8 aN8 aC8 aA8 kS8 aM8 aG8 aT8 aH8 aR8 aF8 kF8 aB8 kT8 aX8 (nI A9.1.1) f8 (nI A9.2.1.1) zf8 zn8 A9.2.2.2 (nI A9.2.2.1) td8 rg8 pa8 vl8) ++ [(ol, LgE cJ (vp_updL g (0 : Int32).toNatClampNeg (r9 : Int32).toInt64))]) H2 := hP
    refine lv_goto (tgt := 25) hx hb dL_clash_14 (by decide) ?_
    refine lv_iconst (v := 0) hx hb dL_clash_25 (by decide) ?_
    exact wc_iret hx hb hr hlocks hP hS rfl dL_clash_26 ⟨0, r9, A9, _, _, rfl, hsp, fun _ => updL0, ⟨kn8, kS8, kF8, kT8, rg8, pa8, vl8, aO8, aW8, aN8, aC8, aA8, aM8, aG8, aT8, aH8, aR8, aF8, aB8, aX8, f8, zf8, zn8, td8, hB, hH, rfl⟩, rfl⟩
set_option maxHeartbeats 4000000 in
set_option maxRecDepth 100000 in
theorem c_L_at (l : Launch) (hfl : l.stackTraces = false) (D : va_G) {ox op xO xW xN xC xA xM xG xT xH xR xF xB xX ob oc oh hc hp ot yc yt ol : Nat} {cI cZ cJ : ClassId} {n q b : Nat} {P : Nat → Nat → Int32} {kn kS kF kT rg pa vl : Int32} {aO aW aN aC aA aM aG aT aH aR aF aB aX f zf zn co td : Nat → Int32} {hs : Nat → BS} (hA : aOK ((n, P), (q, hs), (b, co))) (hf : clB n P f) (hh : clH q hs zf zn) (x y : Int32) {g : Nat → Int64} : wc_M l yL_at wsL_at ({ frames := 7, cells := 1, slots := 6, locals := 106 } : Room) D ((ClW ox op xO xW xN xC xA xM xG xT xH xR xF xB xX ob oc oh hc hp ot yc yt cI cZ kn aO aW aN aC aA kS aM aG aT aH aR aF kF aB kT aX (nI n) f (nI q) zf zn co (nI b) td rg pa vl) ++ [(ol, LgE cJ g)]) [(cI, .int), (cZ, .boolean), (cJ, .long)] [.ref ox, .int x, .int y, .ref ol] (fun v w9 => ∃ (k r : Int32) (A9 : AS) (g9 : Nat → Int64) (wc : va_W), v = some (.int k) ∧ spAt ((n, P), (q, hs), (b, co)) x y = (k, r, A9) ∧ (k = 0 → g9 0 = r.toInt64) ∧ ClP ox op xO xW xN xC xA xM xG xT xH xR xF xB xX ob oc oh hc hp ot yc yt cI cZ A9 wc ∧ w9 = wc ++ [(ol, LgE cJ g9)]) := by
  refine wc_of (cc := cL_at) (maxL := 5) (ret := some .int) (hh := [(0, 10, 13, 13)]) (by decide) rfl (Nat.le_of_ble_eq_true rfl) ?_
  intro p e s m below meth c hx hb hr hml hts hown hlocks htab hP hK hN hZ hT hD hS ls hl
  have hown : s.vm.findClass RL = some m.cls := hown
  have hl : lv_has ls 5 [(0, .ref ox), (1, .int x), (2, .int y), (3, .ref ol)] := hl
  refine lv_aload_n hx hb dL_at_0 rfl (lv_at hl 3 rfl) ?_
  refine lv_iconst (v := 0) hx hb dL_at_1 (by decide) ?_
  refine lv_aload_n hx hb dL_at_2 rfl (lv_at hl 0 rfl) ?_
  refine lv_iload_n hx hb dL_at_3 rfl (lv_at hl 1 rfl) ?_
  refine lv_iload_n hx hb dL_at_4 rfl (lv_at hl 2 rfl) ?_
  refine wa_callVX (As := [.int x, .int y]) (rest := [.int 0, .ref ol]) ⟨hx, hb, hml, hown, hts⟩ (c_X4_at (P := P) l hfl D hA hf hh x y) (cwV 2 hts gL_at_X4_at rfl rfl rfl (by decide +kernel) ⟨by decide, by decide⟩) hK hN hZ hT hP hD hS [0, 1] rfl (q0 := 0) rfl rfl rfl hl.1 rfl (Nat.le_of_ble_eq_true rfl) ⟨by decide, by decide⟩ dL_at_5 ?_ ?_
  · intro E ce q9 w1 H1 locs1 hpx hP hD hS hcell hv hcl
    obtain ⟨hd, _, _, _, _, _, _, _, _, _, _, _, _, _, _, _, _, _, _, _, _, _, _, _, _, hB, hH, rfl⟩ := hpx
    rcases hd with ⟨rfl, hsp⟩
    · have hcl : s.vm.findClass "java/lang/IllegalArgumentException" = some ce.cls := hcl
      refine vx_catch (own := RL) (name := "java/lang/IllegalArgumentException") hown [] ⟨0, 10, 13, 13⟩ [] htab (fun z hz => nomatch hz) (by decide) (by decide) (hts (.classLink RL 13 "java/lang/IllegalArgumentException") (by decide +kernel)) (va_Nw.use rfl hT.2.2.1.1) hcell hv hcl ?_
      refine lv_astore (lv' := [(4, .ref q9), (0, .ref ox), (1, .int x), (2, .int y), (3, .ref ol)]) hx hb dL_at_13 hl (by decide) rfl (fun ls hl => ?_)
      refine lv_iconst (v := 1) hx hb dL_at_15 (by decide) ?_
      exact wc_iret hx hb hr hlocks hP hS rfl dL_at_16 ⟨1, 0, ((n, P), (q, hs), (b, co)), g, _, rfl, hsp, fun q => absurd q (by decide), ⟨_, _, _, _, _, _, _, _, _, _, _, _, _, _, _, _, _, _, _, _, _, _, _, _, hB, hH, rfl⟩, rfl⟩
  · intro v w1 H1 locs1 hpost hP hD hS
    obtain ⟨r9, A9, rfl, hsp, kn8, kS8, kF8, kT8, rg8, pa8, vl8, aO8, aW8, aN8, aC8, aA8, aM8, aG8, aT8, aH8, aR8, aF8, aB8, aX8, f8, zf8, zn8, td8, hB, hH, rfl⟩ := hpost
    refine W.eq (g2 := F0 m 8 ls [.int r9, .int 0, .ref ol]) rfl ?_
    refine lv_i2l (v := (r9 : Int32).toInt64) hx hb dL_at_8 rfl ?_
    refine va_last hx hb hK hP hD hS 23 2 rfl rfl in01 dL_at_9 (fun H2 locs2 hP hD hS => ?_)
    have hP : va_P D vwCl ((ClW ox op xO xW xN xC xA xM xG xT xH xR xF xB xX ob oc oh hc hp ot yc yt cI cZ kn8 aO8 aW8 aN8 aC8 aA8 kS8 aM8 aG8 aT8 aH8 aR8 aF8 kF8 aB8 kT8 aX8 (nI A9.1.1) f8 (nI A9.2.1.1) zf8 zn8 A9.2.2.2 (nI A9.2.2.1) td8 rg8 pa8 vl8) ++ [(ol, LgE cJ (vp_updL g (0 : Int32).toNatClampNeg (r9 : Int32).toInt64))]) H2 := hP
    refine lv_goto (tgt := 17) hx hb dL_at_10 (by decide) ?_
    refine lv_iconst (v := 0) hx hb dL_at_17 (by decide) ?_
    exact wc_iret hx hb hr hlocks hP hS rfl dL_at_18 ⟨0, r9, A9, _, _, rfl, hsp, fun _ => updL0, ⟨kn8, kS8, kF8, kT8, rg8, pa8, vl8, aO8, aW8, aN8, aC8, aA8, aM8, aG8, aT8, aH8, aR8, aF8, aB8, aX8, f8, zf8, zn8, td8, hB, hH, rfl⟩, rfl⟩
set_option maxHeartbeats 4000000 in
set_option maxRecDepth 100000 in
theorem c_L_count (l : Launch) (hfl : l.stackTraces = false) (D : va_G) {ox op xO xW xN xC xA xM xG xT xH xR xF xB xX ob oc oh hc hp ot yc yt ol : Nat} {cI cZ cJ : ClassId} {n q b : Nat} {P : Nat → Nat → Int32} {kn kS kF kT rg pa vl : Int32} {aO aW aN aC aA aM aG aT aH aR aF aB aX f zf zn co td : Nat → Int32} {hs : Nat → BS} (hA : aOK ((n, P), (q, hs), (b, co))) (hf : clB n P f) (hh : clH q hs zf zn) (x : Int32) {g : Nat → Int64} : wc_M l yL_count wsL_count ({ frames := 7, cells := 1, slots := 6, locals := 163 } : Room) D ((ClW ox op xO xW xN xC xA xM xG xT xH xR xF xB xX ob oc oh hc hp ot yc yt cI cZ kn aO aW aN aC aA kS aM aG aT aH aR aF kF aB kT aX (nI n) f (nI q) zf zn co (nI b) td rg pa vl) ++ [(ol, LgE cJ g)]) [(cI, .int), (cZ, .boolean), (cJ, .long)] [.ref ox, .int x, .ref ol] (fun v w9 => ∃ (k r : Int32) (A9 : AS) (g9 : Nat → Int64) (wc : va_W), v = some (.int k) ∧ spCount ((n, P), (q, hs), (b, co)) x = (k, r, A9) ∧ (k = 0 → g9 0 = r.toInt64) ∧ ClP ox op xO xW xN xC xA xM xG xT xH xR xF xB xX ob oc oh hc hp ot yc yt cI cZ A9 wc ∧ w9 = wc ++ [(ol, LgE cJ g9)]) := by
  refine wc_of (cc := cL_count) (maxL := 4) (ret := some .int) (hh := [(0, 9, 12, 13)]) (by decide) rfl (Nat.le_of_ble_eq_true rfl) ?_
  intro p e s m below meth c hx hb hr hml hts hown hlocks htab hP hK hN hZ hT hD hS ls hl
  have hown : s.vm.findClass RL = some m.cls := hown
  have hl : lv_has ls 4 [(0, .ref ox), (1, .int x), (2, .ref ol)] := hl
  refine lv_aload_n hx hb dL_count_0 rfl (lv_at hl 2 rfl) ?_
  refine lv_iconst (v := 0) hx hb dL_count_1 (by decide) ?_
  refine lv_aload_n hx hb dL_count_2 rfl (lv_at hl 0 rfl) ?_
  refine lv_iload_n hx hb dL_count_3 rfl (lv_at hl 1 rfl) ?_
  refine wa_callVX (As := [.int x]) (rest := [.int 0, .ref ol]) ⟨hx, hb, hml, hown, hts⟩ (c_X4_count (P := P) l hfl D hA hf hh x) (cwV 1 hts gL_count_X4_count rfl rfl rfl (by decide +kernel) ⟨by decide, by decide⟩) hK hN hZ hT hP hD hS [0, 1] rfl (q0 := 0) rfl rfl rfl hl.1 rfl (Nat.le_of_ble_eq_true rfl) ⟨by decide, by decide⟩ dL_count_4 ?_ ?_
  · intro E ce q9 w1 H1 locs1 hpx hP hD hS hcell hv hcl
    obtain ⟨hd, _, _, _, _, _, _, _, _, _, _, _, _, _, _, _, _, _, _, _, _, _, _, _, _, hB, hH, rfl⟩ := hpx
    rcases hd with ⟨rfl, hsp⟩
    · have hcl : s.vm.findClass "java/lang/IllegalArgumentException" = some ce.cls := hcl
      refine vx_catch (own := RL) (name := "java/lang/IllegalArgumentException") hown [] ⟨0, 9, 12, 13⟩ [] htab (fun z hz => nomatch hz) (by decide) (by decide) (hts (.classLink RL 13 "java/lang/IllegalArgumentException") (by decide +kernel)) (va_Nw.use rfl hT.2.2.1.1) hcell hv hcl ?_
      refine lv_astore_n (lv' := [(3, .ref q9), (0, .ref ox), (1, .int x), (2, .ref ol)]) hx hb dL_count_12 rfl hl (by decide) rfl (fun ls hl => ?_)
      refine lv_iconst (v := 1) hx hb dL_count_13 (by decide) ?_
      exact wc_iret hx hb hr hlocks hP hS rfl dL_count_14 ⟨1, 0, ((n, P), (q, hs), (b, co)), g, _, rfl, hsp, fun q => absurd q (by decide), ⟨_, _, _, _, _, _, _, _, _, _, _, _, _, _, _, _, _, _, _, _, _, _, _, _, hB, hH, rfl⟩, rfl⟩
  · intro v w1 H1 locs1 hpost hP hD hS
    obtain ⟨r9, A9, rfl, hsp, kn8, kS8, kF8, kT8, rg8, pa8, vl8, aO8, aW8, aN8, aC8, aA8, aM8, aG8, aT8, aH8, aR8, aF8, aB8, aX8, f8, zf8, zn8, td8, hB, hH, rfl⟩ := hpost
    refine W.eq (g2 := F0 m 7 ls [.int r9, .int 0, .ref ol]) rfl ?_
    refine lv_i2l (v := (r9 : Int32).toInt64) hx hb dL_count_7 rfl ?_
    refine va_last hx hb hK hP hD hS 23 2 rfl rfl in01 dL_count_8 (fun H2 locs2 hP hD hS => ?_)
    have hP : va_P D vwCl ((ClW ox op xO xW xN xC xA xM xG xT xH xR xF xB xX ob oc oh hc hp ot yc yt cI cZ kn8 aO8 aW8 aN8 aC8 aA8 kS8 aM8 aG8 aT8 aH8 aR8 aF8 kF8 aB8 kT8 aX8 (nI A9.1.1) f8 (nI A9.2.1.1) zf8 zn8 A9.2.2.2 (nI A9.2.2.1) td8 rg8 pa8 vl8) ++ [(ol, LgE cJ (vp_updL g (0 : Int32).toNatClampNeg (r9 : Int32).toInt64))]) H2 := hP
    refine lv_goto (tgt := 15) hx hb dL_count_9 (by decide) ?_
    refine lv_iconst (v := 0) hx hb dL_count_15 (by decide) ?_
    exact wc_iret hx hb hr hlocks hP hS rfl dL_count_16 ⟨0, r9, A9, _, _, rfl, hsp, fun _ => updL0, ⟨kn8, kS8, kF8, kT8, rg8, pa8, vl8, aO8, aW8, aN8, aC8, aA8, aM8, aG8, aT8, aH8, aR8, aF8, aB8, aX8, f8, zf8, zn8, td8, hB, hH, rfl⟩, rfl⟩
set_option maxHeartbeats 4000000 in
set_option maxRecDepth 100000 in
theorem c_L_best (l : Launch) (hfl : l.stackTraces = false) (D : va_G) {ox op xO xW xN xC xA xM xG xT xH xR xF xB xX ob oc oh hc hp ot yc yt ol : Nat} {cI cZ cJ : ClassId} {n q b : Nat} {P : Nat → Nat → Int32} {kn kS kF kT rg pa vl : Int32} {aO aW aN aC aA aM aG aT aH aR aF aB aX f zf zn co td : Nat → Int32} {hs : Nat → BS} (hA : aOK ((n, P), (q, hs), (b, co))) (hf : clB n P f) (hh : clH q hs zf zn) (x : Int32) {g : Nat → Int64} : wc_M l yL_best wsL_best ({ frames := 15, cells := 1, slots := 6, locals := 409 } : Room) D ((ClW ox op xO xW xN xC xA xM xG xT xH xR xF xB xX ob oc oh hc hp ot yc yt cI cZ kn aO aW aN aC aA kS aM aG aT aH aR aF kF aB kT aX (nI n) f (nI q) zf zn co (nI b) td rg pa vl) ++ [(ol, LgE cJ g)]) [(cI, .int), (cZ, .boolean), (cJ, .long)] [.ref ox, .int x, .ref ol] (fun v w9 => ∃ (k r : Int32) (A9 : AS) (g9 : Nat → Int64) (wc : va_W), v = some (.int k) ∧ spBest ((n, P), (q, hs), (b, co)) x = (k, r, A9) ∧ (k = 0 → g9 0 = r.toInt64) ∧ ClP ox op xO xW xN xC xA xM xG xT xH xR xF xB xX ob oc oh hc hp ot yc yt cI cZ A9 wc ∧ w9 = wc ++ [(ol, LgE cJ g9)]) := by
  refine wc_of (cc := cL_best) (maxL := 4) (ret := some .int) (hh := [(0, 9, 12, 21)]) (by decide) rfl (Nat.le_of_ble_eq_true rfl) ?_
  intro p e s m below meth c hx hb hr hml hts hown hlocks htab hP hK hN hZ hT hD hS ls hl
  have hown : s.vm.findClass RL = some m.cls := hown
  have hl : lv_has ls 4 [(0, .ref ox), (1, .int x), (2, .ref ol)] := hl
  refine lv_aload_n hx hb dL_best_0 rfl (lv_at hl 2 rfl) ?_
  refine lv_iconst (v := 0) hx hb dL_best_1 (by decide) ?_
  refine lv_aload_n hx hb dL_best_2 rfl (lv_at hl 0 rfl) ?_
  refine lv_iload_n hx hb dL_best_3 rfl (lv_at hl 1 rfl) ?_
  refine wa_callVX (As := [.int x]) (rest := [.int 0, .ref ol]) ⟨hx, hb, hml, hown, hts⟩ (c_X4_best (P := P) l hfl D hA hf hh x) (cwV 1 hts gL_best_X4_best rfl rfl rfl (by decide +kernel) ⟨by decide, by decide⟩) hK hN hZ hT hP hD hS [0, 1] rfl (q0 := 0) rfl rfl rfl hl.1 rfl (Nat.le_of_ble_eq_true rfl) ⟨by decide, by decide⟩ dL_best_4 ?_ ?_
  · intro E ce q9 w1 H1 locs1 hpx hP hD hS hcell hv hcl
    obtain ⟨hd, _, _, _, _, _, _, _, _, _, _, _, _, _, _, _, _, _, _, _, _, _, _, _, _, hB, hH, rfl⟩ := hpx
    rcases hd with ⟨rfl, hsp⟩
    · have hcl : s.vm.findClass "java/lang/IndexOutOfBoundsException" = some ce.cls := hcl
      refine vx_catch (own := RL) (name := "java/lang/IndexOutOfBoundsException") hown [] ⟨0, 9, 12, 21⟩ [] htab (fun z hz => nomatch hz) (by decide) (by decide) (hts (.classLink RL 21 "java/lang/IndexOutOfBoundsException") (by decide +kernel)) (va_Nw.use rfl hT.2.2.1.2.2.1) hcell hv hcl ?_
      refine lv_astore_n (lv' := [(3, .ref q9), (0, .ref ox), (1, .int x), (2, .ref ol)]) hx hb dL_best_12 rfl hl (by decide) rfl (fun ls hl => ?_)
      refine lv_iconst (v := 1) hx hb dL_best_13 (by decide) ?_
      exact wc_iret hx hb hr hlocks hP hS rfl dL_best_14 ⟨1, 0, ((n, P), (q, hs), (b, co)), g, _, rfl, hsp, fun q => absurd q (by decide), ⟨_, _, _, _, _, _, _, _, _, _, _, _, _, _, _, _, _, _, _, _, _, _, _, _, hB, hH, rfl⟩, rfl⟩
  · intro v w1 H1 locs1 hpost hP hD hS
    obtain ⟨r9, A9, rfl, hsp, kn8, kS8, kF8, kT8, rg8, pa8, vl8, aO8, aW8, aN8, aC8, aA8, aM8, aG8, aT8, aH8, aR8, aF8, aB8, aX8, f8, zf8, zn8, td8, hB, hH, rfl⟩ := hpost
    refine W.eq (g2 := F0 m 7 ls [.int r9, .int 0, .ref ol]) rfl ?_
    refine lv_i2l (v := (r9 : Int32).toInt64) hx hb dL_best_7 rfl ?_
    refine va_last hx hb hK hP hD hS 23 2 rfl rfl in01 dL_best_8 (fun H2 locs2 hP hD hS => ?_)
    have hP : va_P D vwCl ((ClW ox op xO xW xN xC xA xM xG xT xH xR xF xB xX ob oc oh hc hp ot yc yt cI cZ kn8 aO8 aW8 aN8 aC8 aA8 kS8 aM8 aG8 aT8 aH8 aR8 aF8 kF8 aB8 kT8 aX8 (nI A9.1.1) f8 (nI A9.2.1.1) zf8 zn8 A9.2.2.2 (nI A9.2.2.1) td8 rg8 pa8 vl8) ++ [(ol, LgE cJ (vp_updL g (0 : Int32).toNatClampNeg (r9 : Int32).toInt64))]) H2 := hP
    refine lv_goto (tgt := 15) hx hb dL_best_9 (by decide) ?_
    refine lv_iconst (v := 0) hx hb dL_best_15 (by decide) ?_
    exact wc_iret hx hb hr hlocks hP hS rfl dL_best_16 ⟨0, r9, A9, _, _, rfl, hsp, fun _ => updL0, ⟨kn8, kS8, kF8, kT8, rg8, pa8, vl8, aO8, aW8, aN8, aC8, aA8, aM8, aG8, aT8, aH8, aR8, aF8, aB8, aX8, f8, zf8, zn8, td8, hB, hH, rfl⟩, rfl⟩
set_option maxHeartbeats 4000000 in
set_option maxRecDepth 100000 in
theorem c_L_bestWeight (l : Launch) (hfl : l.stackTraces = false) (D : va_G) {ox op xO xW xN xC xA xM xG xT xH xR xF xB xX ob oc oh hc hp ot yc yt ol : Nat} {cI cZ cJ : ClassId} {n q b : Nat} {P : Nat → Nat → Int32} {kn kS kF kT rg pa vl : Int32} {aO aW aN aC aA aM aG aT aH aR aF aB aX f zf zn co td : Nat → Int32} {hs : Nat → BS} (hA : aOK ((n, P), (q, hs), (b, co))) (hf : clB n P f) (hh : clH q hs zf zn) (x : Int32) {g : Nat → Int64} : wc_M l yL_bestWeight wsL_bestWeight ({ frames := 14, cells := 1, slots := 6, locals := 389 } : Room) D ((ClW ox op xO xW xN xC xA xM xG xT xH xR xF xB xX ob oc oh hc hp ot yc yt cI cZ kn aO aW aN aC aA kS aM aG aT aH aR aF kF aB kT aX (nI n) f (nI q) zf zn co (nI b) td rg pa vl) ++ [(ol, LgE cJ g)]) [(cI, .int), (cZ, .boolean), (cJ, .long)] [.ref ox, .int x, .ref ol] (fun v w9 => ∃ (k r : Int32) (A9 : AS) (g9 : Nat → Int64) (wc : va_W), v = some (.int k) ∧ spBestW ((n, P), (q, hs), (b, co)) x = (k, r, A9) ∧ (k = 0 → g9 0 = r.toInt64) ∧ ClP ox op xO xW xN xC xA xM xG xT xH xR xF xB xX ob oc oh hc hp ot yc yt cI cZ A9 wc ∧ w9 = wc ++ [(ol, LgE cJ g9)]) := by
  refine wc_of (cc := cL_bestWeight) (maxL := 4) (ret := some .int) (hh := [(0, 9, 12, 21)]) (by decide) rfl (Nat.le_of_ble_eq_true rfl) ?_
  intro p e s m below meth c hx hb hr hml hts hown hlocks htab hP hK hN hZ hT hD hS ls hl
  have hown : s.vm.findClass RL = some m.cls := hown
  have hl : lv_has ls 4 [(0, .ref ox), (1, .int x), (2, .ref ol)] := hl
  refine lv_aload_n hx hb dL_bestWeight_0 rfl (lv_at hl 2 rfl) ?_
  refine lv_iconst (v := 0) hx hb dL_bestWeight_1 (by decide) ?_
  refine lv_aload_n hx hb dL_bestWeight_2 rfl (lv_at hl 0 rfl) ?_
  refine lv_iload_n hx hb dL_bestWeight_3 rfl (lv_at hl 1 rfl) ?_
  refine wa_callVX (As := [.int x]) (rest := [.int 0, .ref ol]) ⟨hx, hb, hml, hown, hts⟩ (c_X4_bestWeight (P := P) l hfl D hA hf hh x) (cwV 1 hts gL_bestWeight_X4_bestWeight rfl rfl rfl (by decide +kernel) ⟨by decide, by decide⟩) hK hN hZ hT hP hD hS [0, 1] rfl (q0 := 0) rfl rfl rfl hl.1 rfl (Nat.le_of_ble_eq_true rfl) ⟨by decide, by decide⟩ dL_bestWeight_4 ?_ ?_
  · intro E ce q9 w1 H1 locs1 hpx hP hD hS hcell hv hcl
    obtain ⟨hd, _, _, _, _, _, _, _, _, _, _, _, _, _, _, _, _, _, _, _, _, _, _, _, _, hB, hH, rfl⟩ := hpx
    rcases hd with ⟨rfl, hsp⟩
    · have hcl : s.vm.findClass "java/lang/IndexOutOfBoundsException" = some ce.cls := hcl
      refine vx_catch (own := RL) (name := "java/lang/IndexOutOfBoundsException") hown [] ⟨0, 9, 12, 21⟩ [] htab (fun z hz => nomatch hz) (by decide) (by decide) (hts (.classLink RL 21 "java/lang/IndexOutOfBoundsException") (by decide +kernel)) (va_Nw.use rfl hT.2.2.1.2.2.1) hcell hv hcl ?_
      refine lv_astore_n (lv' := [(3, .ref q9), (0, .ref ox), (1, .int x), (2, .ref ol)]) hx hb dL_bestWeight_12 rfl hl (by decide) rfl (fun ls hl => ?_)
      refine lv_iconst (v := 1) hx hb dL_bestWeight_13 (by decide) ?_
      exact wc_iret hx hb hr hlocks hP hS rfl dL_bestWeight_14 ⟨1, 0, ((n, P), (q, hs), (b, co)), g, _, rfl, hsp, fun q => absurd q (by decide), ⟨_, _, _, _, _, _, _, _, _, _, _, _, _, _, _, _, _, _, _, _, _, _, _, _, hB, hH, rfl⟩, rfl⟩
  · intro v w1 H1 locs1 hpost hP hD hS
    obtain ⟨r9, A9, rfl, hsp, kn8, kS8, kF8, kT8, rg8, pa8, vl8, aO8, aW8, aN8, aC8, aA8, aM8, aG8, aT8, aH8, aR8, aF8, aB8, aX8, f8, zf8, zn8, td8, hB, hH, rfl⟩ := hpost
    refine W.eq (g2 := F0 m 7 ls [.int r9, .int 0, .ref ol]) rfl ?_
    refine lv_i2l (v := (r9 : Int32).toInt64) hx hb dL_bestWeight_7 rfl ?_
    refine va_last hx hb hK hP hD hS 23 2 rfl rfl in01 dL_bestWeight_8 (fun H2 locs2 hP hD hS => ?_)
    have hP : va_P D vwCl ((ClW ox op xO xW xN xC xA xM xG xT xH xR xF xB xX ob oc oh hc hp ot yc yt cI cZ kn8 aO8 aW8 aN8 aC8 aA8 kS8 aM8 aG8 aT8 aH8 aR8 aF8 kF8 aB8 kT8 aX8 (nI A9.1.1) f8 (nI A9.2.1.1) zf8 zn8 A9.2.2.2 (nI A9.2.2.1) td8 rg8 pa8 vl8) ++ [(ol, LgE cJ (vp_updL g (0 : Int32).toNatClampNeg (r9 : Int32).toInt64))]) H2 := hP
    refine lv_goto (tgt := 15) hx hb dL_bestWeight_9 (by decide) ?_
    refine lv_iconst (v := 0) hx hb dL_bestWeight_15 (by decide) ?_
    exact wc_iret hx hb hr hlocks hP hS rfl dL_bestWeight_16 ⟨0, r9, A9, _, _, rfl, hsp, fun _ => updL0, ⟨kn8, kS8, kF8, kT8, rg8, pa8, vl8, aO8, aW8, aN8, aC8, aA8, aM8, aG8, aT8, aH8, aR8, aF8, aB8, aX8, f8, zf8, zn8, td8, hB, hH, rfl⟩, rfl⟩
set_option maxHeartbeats 4000000 in
set_option maxRecDepth 100000 in
theorem c_L_ifPushed (l : Launch) (hfl : l.stackTraces = false) (D : va_G) {ox op xO xW xN xC xA xM xG xT xH xR xF xB xX ob oc oh hc hp ot yc yt ol : Nat} {cI cZ cJ : ClassId} {n q b : Nat} {P : Nat → Nat → Int32} {kn kS kF kT rg pa vl : Int32} {aO aW aN aC aA aM aG aT aH aR aF aB aX f zf zn co td : Nat → Int32} {hs : Nat → BS} (hA : aOK ((n, P), (q, hs), (b, co))) (hf : clB n P f) (hh : clH q hs zf zn) (x : Int32) {g : Nat → Int64} : wc_M l yL_ifPushed wsL_ifPushed ({ frames := 14, cells := 1, slots := 6, locals := 391 } : Room) D ((ClW ox op xO xW xN xC xA xM xG xT xH xR xF xB xX ob oc oh hc hp ot yc yt cI cZ kn aO aW aN aC aA kS aM aG aT aH aR aF kF aB kT aX (nI n) f (nI q) zf zn co (nI b) td rg pa vl) ++ [(ol, LgE cJ g)]) [(cI, .int), (cZ, .boolean), (cJ, .long)] [.ref ox, .int x, .ref ol] (fun v w9 => ∃ (k r : Int32) (A9 : AS) (g9 : Nat → Int64) (wc : va_W), v = some (.int k) ∧ spIfP ((n, P), (q, hs), (b, co)) x = (k, r, A9) ∧ (k = 0 → g9 0 = r.toInt64) ∧ ClP ox op xO xW xN xC xA xM xG xT xH xR xF xB xX ob oc oh hc hp ot yc yt cI cZ A9 wc ∧ w9 = wc ++ [(ol, LgE cJ g9)]) := by
  refine wc_of (cc := cL_ifPushed) (maxL := 4) (ret := some .int) (hh := [(0, 9, 12, 21)]) (by decide) rfl (Nat.le_of_ble_eq_true rfl) ?_
  intro p e s m below meth c hx hb hr hml hts hown hlocks htab hP hK hN hZ hT hD hS ls hl
  have hown : s.vm.findClass RL = some m.cls := hown
  have hl : lv_has ls 4 [(0, .ref ox), (1, .int x), (2, .ref ol)] := hl
  refine lv_aload_n hx hb dL_ifPushed_0 rfl (lv_at hl 2 rfl) ?_
  refine lv_iconst (v := 0) hx hb dL_ifPushed_1 (by decide) ?_
  refine lv_aload_n hx hb dL_ifPushed_2 rfl (lv_at hl 0 rfl) ?_
  refine lv_iload_n hx hb dL_ifPushed_3 rfl (lv_at hl 1 rfl) ?_
  refine wa_callVX (As := [.int x]) (rest := [.int 0, .ref ol]) ⟨hx, hb, hml, hown, hts⟩ (c_X4_ifPushed (P := P) l hfl D hA hf hh x) (cwV 1 hts gL_ifPushed_X4_ifPushed rfl rfl rfl (by decide +kernel) ⟨by decide, by decide⟩) hK hN hZ hT hP hD hS [0, 1] rfl (q0 := 0) rfl rfl rfl hl.1 rfl (Nat.le_of_ble_eq_true rfl) ⟨by decide, by decide⟩ dL_ifPushed_4 ?_ ?_
  · intro E ce q9 w1 H1 locs1 hpx hP hD hS hcell hv hcl
    obtain ⟨hd, _, _, _, _, _, _, _, _, _, _, _, _, _, _, _, _, _, _, _, _, _, _, _, _, hB, hH, rfl⟩ := hpx
    rcases hd with ⟨rfl, hsp⟩
    · have hcl : s.vm.findClass "java/lang/IndexOutOfBoundsException" = some ce.cls := hcl
      refine vx_catch (own := RL) (name := "java/lang/IndexOutOfBoundsException") hown [] ⟨0, 9, 12, 21⟩ [] htab (fun z hz => nomatch hz) (by decide) (by decide) (hts (.classLink RL 21 "java/lang/IndexOutOfBoundsException") (by decide +kernel)) (va_Nw.use rfl hT.2.2.1.2.2.1) hcell hv hcl ?_
      refine lv_astore_n (lv' := [(3, .ref q9), (0, .ref ox), (1, .int x), (2, .ref ol)]) hx hb dL_ifPushed_12 rfl hl (by decide) rfl (fun ls hl => ?_)
      refine lv_iconst (v := 1) hx hb dL_ifPushed_13 (by decide) ?_
      exact wc_iret hx hb hr hlocks hP hS rfl dL_ifPushed_14 ⟨1, 0, ((n, P), (q, hs), (b, co)), g, _, rfl, hsp, fun q => absurd q (by decide), ⟨_, _, _, _, _, _, _, _, _, _, _, _, _, _, _, _, _, _, _, _, _, _, _, _, hB, hH, rfl⟩, rfl⟩
  · intro v w1 H1 locs1 hpost hP hD hS
    obtain ⟨r9, A9, rfl, hsp, kn8, kS8, kF8, kT8, rg8, pa8, vl8, aO8, aW8, aN8, aC8, aA8, aM8, aG8, aT8, aH8, aR8, aF8, aB8, aX8, f8, zf8, zn8, td8, hB, hH, rfl⟩ := hpost
    refine W.eq (g2 := F0 m 7 ls [.int r9, .int 0, .ref ol]) rfl ?_
    refine lv_i2l (v := (r9 : Int32).toInt64) hx hb dL_ifPushed_7 rfl ?_
    refine va_last hx hb hK hP hD hS 23 2 rfl rfl in01 dL_ifPushed_8 (fun H2 locs2 hP hD hS => ?_)
    have hP : va_P D vwCl ((ClW ox op xO xW xN xC xA xM xG xT xH xR xF xB xX ob oc oh hc hp ot yc yt cI cZ kn8 aO8 aW8 aN8 aC8 aA8 kS8 aM8 aG8 aT8 aH8 aR8 aF8 kF8 aB8 kT8 aX8 (nI A9.1.1) f8 (nI A9.2.1.1) zf8 zn8 A9.2.2.2 (nI A9.2.2.1) td8 rg8 pa8 vl8) ++ [(ol, LgE cJ (vp_updL g (0 : Int32).toNatClampNeg (r9 : Int32).toInt64))]) H2 := hP
    refine lv_goto (tgt := 15) hx hb dL_ifPushed_9 (by decide) ?_
    refine lv_iconst (v := 0) hx hb dL_ifPushed_15 (by decide) ?_
    exact wc_iret hx hb hr hlocks hP hS rfl dL_ifPushed_16 ⟨0, r9, A9, _, _, rfl, hsp, fun _ => updL0, ⟨kn8, kS8, kF8, kT8, rg8, pa8, vl8, aO8, aW8, aN8, aC8, aA8, aM8, aG8, aT8, aH8, aR8, aF8, aB8, aX8, f8, zf8, zn8, td8, hB, hH, rfl⟩, rfl⟩
