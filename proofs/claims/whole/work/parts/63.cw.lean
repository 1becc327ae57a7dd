abbrev ClW (ox op xO xW xN xC xA xM xG xT xH xR xF xB xX ob oc oh hc hp ot yc yt : Nat) (cI cZ : ClassId) (kn : Int32) (aO : Nat → Int32) (aW : Nat → Int32) (aN : Nat → Int32) (aC : Nat → Int32) (aA : Nat → Int32) (kS : Int32) (aM : Nat → Int32) (aG : Nat → Int32) (aT : Nat → Int32) (aH : Nat → Int32) (aR : Nat → Int32) (aF : Nat → Int32) (kF : Int32) (aB : Nat → Int32) (kT : Int32) (aX : Nat → Int32) (n : Int32) (f : Nat → Int32) (hk : Int32) (zf : Nat → Int32) (zn : Nat → Int32) (co : Nat → Int32) (ln : Int32) (td : Nat → Int32) (rg : Int32) (pa : Int32) (vl : Int32) : va_W := [(ox, .inr (4, [.ref ob, .ref oh, .ref ot, .ref op])), (op, .inr (2, [.int kn, .ref xO, .ref xW, .ref xN, .ref xC, .ref xA, .int kS, .ref xM, .ref xG, .ref xT, .ref xH, .ref xR, .ref xF, .int kF, .ref xB, .int kT, .ref xX])), (xO, .inl (cI, 8, .inl aO)), (xW, .inl (cI, 8, .inl aW)), (xN, .inl (cI, 8, .inl aN)), (xC, .inl (cI, 32, .inl aC)), (xA, .inl (cI, 8, .inl aA)), (xM, .inl (cZ, 8, .inl aM)), (xG, .inl (cI, 32, .inl aG)), (xT, .inl (cI, 8, .inl aT)), (xH, .inl (cI, 9, .inl aH)), (xR, .inl (cI, 8, .inl aR)), (xF, .inl (cI, 8, .inl aF)), (xB, .inl (cI, 8, .inl aB)), (xX, .inl (cI, 8, .inl aX)), (ob, .inr (0, [.ref oc, .int n])), (oc, .inl (cI, 48, .inl f)), (oh, .inr (1, [.ref hc, .ref hp, .int hk])), (hc, .inl (cI, 288, .inl zf)), (hp, .inl (cI, 6, .inl zn)), (ot, .inr (3, [.ref yc, .int ln, .ref yt, .int rg, .int pa, .int vl])), (yc, .inl (cI, 60, .inl co)), (yt, .inl (cI, 40, .inl td))]
theorem c_X2_room2 (l : Launch) (D : va_G) {op xO xW xN xC xA xM xG xT xH xR xF xB xX ob oc : Nat} {cI cZ : ClassId} {n : Nat} {P : Nat → Nat → Int32} {kS kF kT : Int32} {aO aW aN aC aA aM aG aT aH aR aF aB aX f : Nat → Int32} (hn8 : n ≤ 8) (hbk : bd_ok n P) (hO : lkI n n P aO aW aN) (hC : lcI n n aO P aC) {wt : Nat} (hwt : wt < n) : wr_M l yX2_findRoom wsX2_findRoom ({ frames := 12, cells := 0, slots := 0, locals := 345 } : Room) D (PlW op xO xW xN xC xA xM xG xT xH xR xF xB xX ob oc cI cZ (nI n) aO aW aN aC aA kS aM aG aT aH aR aF kF aB kT aX (nI n) f) [(cI, .int), (cZ, .boolean)] [.ref op, .int (nI wt)] (fun v w9 => ∃ (kS9 kF9 : Int32) (aA9 aM9 aG9 aT9 aH9 aR9 aF9 : Nat → Int32), (¬ mMr n P wt (fun _ => 0) = -1 → ∀ j, j < n → aF9 j = lay ((mRm n P wt (fun _ => 0)).2 j)) ∧ v = some (.int (mMr n P wt (fun _ => 0))) ∧ w9 = PlW op xO xW xN xC xA xM xG xT xH xR xF xB xX ob oc cI cZ (nI n) aO aW aN aC aA9 kS9 aM9 aG9 aT9 aH9 aR9 aF9 kF9 aB kT aX (nI n) f) := by
  refine wr_mono (c_X2_room (P := P) l D hn8 hbk hO hC hwt) ?_
  rintro v w9 (⟨h1, rfl, rfl⟩ | ⟨h1, rfl, kS9, kF9, aA9, aM9, aG9, aT9, aH9, aR9, aF9, h2, rfl⟩)
  · have e : mMr n P wt (fun _ => 0) = -1 := by unfold mMr; rw [if_neg h1]
    exact ⟨_, _, _, _, _, _, _, _, _, fun q => absurd e q, by rw [e], rfl⟩
  · exact ⟨_, _, _, _, _, _, _, _, _, h2, rfl, rfl⟩
theorem clB_set {n i k : Nat} {P : Nat → Nat → Int32} {f f2 : Nat → Int32} {v : Int32} (h8 : n ≤ 8) (hi : i < n) (hk : k < 6) (h : clB n P f) (e : f2 = upd f (8 * k + i) v) : clB n (gSet P i k v) f2 := by
  intro j hj z hz
  rw [e]
  unfold upd gSet
  by_cases hq : j = i ∧ z = k
  · rw [if_pos (by omega), if_pos hq]
  · rw [if_neg (by omega), if_neg hq]
    exact h j hj z hz
theorem clB_ext {n : Nat} {P Q : Nat → Nat → Int32} {f : Nat → Int32} (h : clB n P f) (e : ∀ i, i < n → ∀ k, k < 6 → P i k = Q i k) : clB n Q f := fun i hi k hk => (h i hi k hk).trans (e i hi k hk)
/-- labels put as found, up to the point i -/
def pfI (i : Nat) (aF : Nat → Int32) (P : Nat → Nat → Int32) : Nat → Nat → Int32 := fun j k => if k = 5 ∧ j < i then aF j else P j k
theorem pfI_0 {aF : Nat → Int32} {P : Nat → Nat → Int32} : pfI 0 aF P = P := by
  funext j k
  unfold pfI
  rw [if_neg (by omega)]
theorem pfI_step {n i : Nat} {aF : Nat → Int32} {P : Nat → Nat → Int32} {f f2 : Nat → Int32} (h8 : n ≤ 8) (hi : i < n) (h : clB n (pfI i aF P) f) (e : f2 = upd f (40 + i) (aF i)) : clB n (pfI (i + 1) aF P) f2 := by
  refine clB_ext (clB_set (k := 5) h8 hi (by decide) h e) (fun j hj k hk => ?_)
  unfold gSet pfI
  by_cases h1 : j = i ∧ k = 5
  · rw [if_pos h1, if_pos (by omega), h1.1]
  · rw [if_neg h1]
    by_cases h2 : k = 5 ∧ j < i
    · rw [if_pos h2, if_pos (by omega)]
    · rw [if_neg h2, if_neg (by omega)]
theorem pfI_ly {n i : Nat} {aF pl : Nat → Int32} {P : Nat → Nat → Int32} {f : Nat → Int32} (hi : n ≤ i) (h : clB n (pfI i aF P) f) (e : ∀ j, j < n → aF j = lay (pl j)) : clB n (mLy P pl) f := by
  refine clB_ext h (fun j hj k hk => ?_)
  rw [mLy_lay]
  unfold pfI
  by_cases h5 : k = 5
  · rw [if_pos ⟨h5, by omega⟩, if_pos h5, e j hj]
  · rw [if_neg (fun q => h5 q.1), if_neg h5]
set_option maxHeartbeats 4000000 in
set_option maxRecDepth 100000 in
theorem c_X4_putLabel (l : Launch) (D : va_G) {ox op xO xW xN xC xA xM xG xT xH xR xF xB xX ob oc oh hc hp ot yc yt : Nat} {cI : ClassId} {cZ : ClassId} {n q b : Nat} {P : Nat → Nat → Int32} {kn kS kF kT rg pa vl : Int32} {aO aW aN aC aA aM aG aT aH aR aF aB aX f zf zn co td : Nat → Int32} (hn8 : n ≤ 8) (hf : clB n P f) {i : Nat} (hi : i < n) (x : Int32) : wr_M l yX4_putLabel wsX4_putLabel ({ frames := 0, cells := 0, slots := 0, locals := 0 } : Room) D (ClW ox op xO xW xN xC xA xM xG xT xH xR xF xB xX ob oc oh hc hp ot yc yt cI cZ kn aO aW aN aC aA kS aM aG aT aH aR aF kF aB kT aX (nI n) f (nI q) zf zn co (nI b) td rg pa vl) [(cI, .int), (cZ, .boolean)] [.ref ox, .int (nI i), .int x] (fun v w9 => v = some (.int (P i 5)) ∧ w9 = ClW ox op xO xW xN xC xA xM xG xT xH xR xF xB xX ob oc oh hc hp ot yc yt cI cZ kn aO aW aN aC aA kS aM aG aT aH aR aF kF aB kT aX (nI n) (upd f (40 + i) x) (nI q) zf zn co (nI b) td rg pa vl) := by
  refine wr_of (cc := cX4_putLabel) (maxL := 4) (ret := some .int) (by decide) rfl (Nat.le_of_ble_eq_true rfl) ?_
  intro p e s m below meth c hx hb hr hml hts hown hlocks hP hK hN hZ hD hS ls hl
  have hown : s.vm.findClass RX4 = some m.cls := hown
  have hl : lv_has ls 4 [(0, .ref ox), (1, .int (nI i)), (2, .int x)] := hl
  have hinX4 : ∀ w ∈ u_ws RX4 TX4 4, w ∈ wsX4_putLabel := by decide +kernel
  have hw10 := hts (.fieldLink RX4 10 "CornerLabels" "board" "LCornerLabels$Board;") (by decide +kernel)
  have hinX0 : ∀ w ∈ u_ws RX0 TX0 2, w ∈ wsX4_putLabel := by decide +kernel
  have hw89 := hts (.fieldLink RX4 89 "CornerLabels$Board" "cells" "[I") (by decide +kernel)
  suffices body : ∀ (H : Heap) (locs : List Loc), va_P D vwCl (ClW ox op xO xW xN xC xA xM xG xT xH xR xF xB xX ob oc oh hc hp ot yc yt cI cZ kn aO aW aN aC aA kS aM aG aT aH aR aF kF aB kT aX (nI n) f (nI q) zf zn co (nI b) td rg pa vl) H → va_D (wr_in (ClW ox op xO xW xN xC xA xM xG xT xH xR xF xB xX ob oc oh hc hp ot yc yt cI cZ kn aO aW aN aC aA kS aM aG aT aH aR aF kF aB kT aX (nI n) f (nI q) zf zn co (nI b) td rg pa vl)) (ClW ox op xO xW xN xC xA xM xG xT xH xR xF xB xX ob oc oh hc hp ot yc yt cI cZ kn aO aW aN aC aA kS aM aG aT aH aR aF kF aB kT aX (nI n) f (nI q) zf zn co (nI b) td rg pa vl) → va_S (wr_in (ClW ox op xO xW xN xC xA xM xG xT xH xR xF xB xX ob oc oh hc hp ot yc yt cI cZ kn aO aW aN aC aA kS aM aG aT aH aR aF kF aB kT aX (nI n) f (nI q) zf zn co (nI b) td rg pa vl)) s.heap H locs → wr_W p l e wsX4_putLabel ({ frames := 0, cells := 0, slots := 0, locals := 0 } : Room) s m [.ref ox, .int (nI i), .int x] below meth c D (ClW ox op xO xW xN xC xA xM xG xT xH xR xF xB xX ob oc oh hc hp ot yc yt cI cZ kn aO aW aN aC aA kS aM aG aT aH aR aF kF aB kT aX (nI n) f (nI q) zf zn co (nI b) td rg pa vl) (fun v w9 => v = some (.int (P i 5)) ∧ w9 = ClW ox op xO xW xN xC xA xM xG xT xH xR xF xB xX ob oc oh hc hp ot yc yt cI cZ kn aO aW aN aC aA kS aM aG aT aH aR aF kF aB kT aX (nI n) (upd f (40 + i) x) (nI q) zf zn co (nI b) td rg pa vl) H locs (F0 m 0 ls []) from body _ _ hP hD hS
  clear hP hD hS
  intro H locs hP hD hS
  refine lv_aload_n hx hb dX4_putLabel_0 rfl (lv_at hl 0 rfl) ?_
  refine va_get (D := D) (ci := 4) (v := .ref ob) (C := RX4) (T := TX4) (N := 4) hx hb hts hinX4 hown hK hP 0 rfl rfl 0 (by decide) hw10 (fun _ h9 => h9) rfl dX4_putLabel_1 ?_
  refine va_get (D := D) (ci := 0) (v := .ref oc) (C := RX0) (T := TX0) (N := 2) hx hb hts hinX0 hown hK hP 15 rfl rfl 0 (by decide) hw89 (fun _ h9 => h9) rfl dX4_putLabel_4 ?_
  refine lv_bipush (v := 40) hx hb dX4_putLabel_7 (by decide) ?_
  refine lv_iload_n hx hb dX4_putLabel_9 rfl (lv_at hl 1 rfl) ?_
  refine lv_iadd hx hb dX4_putLabel_10 ?_
  refine lv_asi (y := nI (40 + i)) (nI_add 40 i) ?_
  refine rd_ald (q0 := 16) (t0 := 0) (j := 40 + i) (v := P i 5) hx hb hK hP rfl rfl (rfl) (by omega) (by decide) (by rw [show 40 + i = 8 * 5 + i by omega]; exact hf i hi 5 (by decide)) dX4_putLabel_11 ?_
  refine lv_istore_n (lv' := [(3, .int (P i 5)), (0, .ref ox), (1, .int (nI i)), (2, .int x)]) hx hb dX4_putLabel_12 rfl hl (by decide) rfl (fun ls hl => ?_)
  refine lv_aload_n hx hb dX4_putLabel_13 rfl (lv_at hl 1 rfl) ?_
  refine va_get (D := D) (ci := 4) (v := .ref ob) (C := RX4) (T := TX4) (N := 4) hx hb hts hinX4 hown hK hP 0 rfl rfl 0 (by decide) hw10 (fun _ h9 => h9) rfl dX4_putLabel_14 ?_
  refine va_get (D := D) (ci := 0) (v := .ref oc) (C := RX0) (T := TX0) (N := 2) hx hb hts hinX0 hown hK hP 15 rfl rfl 0 (by decide) hw89 (fun _ h9 => h9) rfl dX4_putLabel_17 ?_
  refine lv_bipush (v := 40) hx hb dX4_putLabel_20 (by decide) ?_
  refine lv_iload_n hx hb dX4_putLabel_22 rfl (lv_at hl 2 rfl) ?_
  refine lv_iadd hx hb dX4_putLabel_23 ?_
  refine lv_asi (y := nI (40 + i)) (nI_add 40 i) ?_
  refine lv_iload_n hx hb dX4_putLabel_24 rfl (lv_at hl 3 rfl) ?_
  refine wr_ast (q0 := 16) (t0 := 0) (j := 40 + i) hx hb hK hP hD hS rfl rfl (rfl) (by omega) (by decide) dX4_putLabel_25 (fun H locs hP hD hS => ?_)
  obtain ⟨f_25, ef_25⟩ : ∃ zz9 : Nat → Int32, zz9 = upd f (40 + i) x := ⟨_, rfl⟩
  rw [← ef_25] at hP hD
  have hP : va_P D vwCl (ClW ox op xO xW xN xC xA xM xG xT xH xR xF xB xX ob oc oh hc hp ot yc yt cI cZ kn aO aW aN aC aA kS aM aG aT aH aR aF kF aB kT aX (nI n) f_25 (nI q) zf zn co (nI b) td rg pa vl) H := hP
  have hD : va_D (wr_in (ClW ox op xO xW xN xC xA xM xG xT xH xR xF xB xX ob oc oh hc hp ot yc yt cI cZ kn aO aW aN aC aA kS aM aG aT aH aR aF kF aB kT aX (nI n) f (nI q) zf zn co (nI b) td rg pa vl)) (ClW ox op xO xW xN xC xA xM xG xT xH xR xF xB xX ob oc oh hc hp ot yc yt cI cZ kn aO aW aN aC aA kS aM aG aT aH aR aF kF aB kT aX (nI n) f_25 (nI q) zf zn co (nI b) td rg pa vl) := hD
  refine lv_iload_n hx hb dX4_putLabel_26 rfl (lv_at hl 0 rfl) ?_
  exact wr_iret hx hb hr hlocks hP hS rfl dX4_putLabel_27 (by exact ⟨rfl, by rw [ef_25]⟩)
set_option maxHeartbeats 4000000 in
set_option maxRecDepth 100000 in
theorem c_X4_putLabelsAsFound (l : Launch) (D : va_G) {ox op xO xW xN xC xA xM xG xT xH xR xF xB xX ob oc oh hc hp ot yc yt : Nat} {cI : ClassId} {cZ : ClassId} {n q b : Nat} {P : Nat → Nat → Int32} {kn kS kF kT rg pa vl : Int32} {aO aW aN aC aA aM aG aT aH aR aF aB aX f zf zn co td : Nat → Int32} (hn8 : n ≤ 8) (hf : clB n P f) (pl : Nat → Int32) (hpl : ∀ j, j < n → aF j = lay (pl j)) : wr_M l yX4_putLabelsAsFound wsX4_putLabelsAsFound ({ frames := 0, cells := 0, slots := 0, locals := 0 } : Room) D (ClW ox op xO xW xN xC xA xM xG xT xH xR xF xB xX ob oc oh hc hp ot yc yt cI cZ kn aO aW aN aC aA kS aM aG aT aH aR aF kF aB kT aX (nI n) f (nI q) zf zn co (nI b) td rg pa vl) [(cI, .int), (cZ, .boolean)] [.ref ox] (fun v w9 => v = none ∧ ∃ f9 : Nat → Int32, clB n (mLy P pl) f9 ∧ w9 = ClW ox op xO xW xN xC xA xM xG xT xH xR xF xB xX ob oc oh hc hp ot yc yt cI cZ kn aO aW aN aC aA kS aM aG aT aH aR aF kF aB kT aX (nI n) f9 (nI q) zf zn co (nI b) td rg pa vl) := by
  refine wr_of (cc := cX4_putLabelsAsFound) (maxL := 2) (ret := none) (by decide) rfl (Nat.le_of_ble_eq_true rfl) ?_
  intro p e s m below meth c hx hb hr hml hts hown hlocks hP hK hN hZ hD hS ls hl
  have hown : s.vm.findClass RX4 = some m.cls := hown
  have hl : lv_has ls 2 [(0, .ref ox)] := hl
  have hinX4 : ∀ w ∈ u_ws RX4 TX4 4, w ∈ wsX4_putLabelsAsFound := by decide +kernel
  have hw10 := hts (.fieldLink RX4 10 "CornerLabels" "board" "LCornerLabels$Board;") (by decide +kernel)
  have hinX0 : ∀ w ∈ u_ws RX0 TX0 2, w ∈ wsX4_putLabelsAsFound := by decide +kernel
  have hw242 := hts (.fieldLink RX4 242 "CornerLabels$Board" "points" "I") (by decide +kernel)
  have hw89 := hts (.fieldLink RX4 89 "CornerLabels$Board" "cells" "[I") (by decide +kernel)
  have hw33 := hts (.fieldLink RX4 33 "CornerLabels" "plans" "LCornerLabels$Plans;") (by decide +kernel)
  have hinX2 : ∀ w ∈ u_ws RX2 TX2 17, w ∈ wsX4_putLabelsAsFound := by decide +kernel
  have hw245 := hts (.fieldLink RX4 245 "CornerLabels$Plans" "found" "[I") (by decide +kernel)
  suffices body : ∀ (H : Heap) (locs : List Loc), va_P D vwCl (ClW ox op xO xW xN xC xA xM xG xT xH xR xF xB xX ob oc oh hc hp ot yc yt cI cZ kn aO aW aN aC aA kS aM aG aT aH aR aF kF aB kT aX (nI n) f (nI q) zf zn co (nI b) td rg pa vl) H → va_D (wr_in (ClW ox op xO xW xN xC xA xM xG xT xH xR xF xB xX ob oc oh hc hp ot yc yt cI cZ kn aO aW aN aC aA kS aM aG aT aH aR aF kF aB kT aX (nI n) f (nI q) zf zn co (nI b) td rg pa vl)) (ClW ox op xO xW xN xC xA xM xG xT xH xR xF xB xX ob oc oh hc hp ot yc yt cI cZ kn aO aW aN aC aA kS aM aG aT aH aR aF kF aB kT aX (nI n) f (nI q) zf zn co (nI b) td rg pa vl) → va_S (wr_in (ClW ox op xO xW xN xC xA xM xG xT xH xR xF xB xX ob oc oh hc hp ot yc yt cI cZ kn aO aW aN aC aA kS aM aG aT aH aR aF kF aB kT aX (nI n) f (nI q) zf zn co (nI b) td rg pa vl)) s.heap H locs → wr_W p l e wsX4_putLabelsAsFound ({ frames := 0, cells := 0, slots := 0, locals := 0 } : Room) s m [.ref ox] below meth c D (ClW ox op xO xW xN xC xA xM xG xT xH xR xF xB xX ob oc oh hc hp ot yc yt cI cZ kn aO aW aN aC aA kS aM aG aT aH aR aF kF aB kT aX (nI n) f (nI q) zf zn co (nI b) td rg pa vl) (fun v w9 => v = none ∧ ∃ f9 : Nat → Int32, clB n (mLy P pl) f9 ∧ w9 = ClW ox op xO xW xN xC xA xM xG xT xH xR xF xB xX ob oc oh hc hp ot yc yt cI cZ kn aO aW aN aC aA kS aM aG aT aH aR aF kF aB kT aX (nI n) f9 (nI q) zf zn co (nI b) td rg pa vl) H locs (F0 m 0 ls []) from body _ _ hP hD hS
  clear hP hD hS
  intro H locs hP hD hS
  refine lv_iconst (v := 0) hx hb dX4_putLabelsAsFound_0 (by decide) ?_
  refine lv_istore_n (lv' := [(1, .int 0), (0, .ref ox)]) hx hb dX4_putLabelsAsFound_1 rfl hl (by decide) rfl (fun ls hl => ?_)
  suffices loop2 : ∀ (k2 i : Nat) (f1 : Nat → Int32) (H : Heap) (locs : List Loc) (ls : Array Slot), i ≤ n → n + 1 ≤ i + k2 → (clB n (pfI i aF P) f1) → va_P D vwCl (ClW ox op xO xW xN xC xA xM xG xT xH xR xF xB xX ob oc oh hc hp ot yc yt cI cZ kn aO aW aN aC aA kS aM aG aT aH aR aF kF aB kT aX (nI n) f1 (nI q) zf zn co (nI b) td rg pa vl) H → va_D (wr_in (ClW ox op xO xW xN xC xA xM xG xT xH xR xF xB xX ob oc oh hc hp ot yc yt cI cZ kn aO aW aN aC aA kS aM aG aT aH aR aF kF aB kT aX (nI n) f (nI q) zf zn co (nI b) td rg pa vl)) (ClW ox op xO xW xN xC xA xM xG xT xH xR xF xB xX ob oc oh hc hp ot yc yt cI cZ kn aO aW aN aC aA kS aM aG aT aH aR aF kF aB kT aX (nI n) f1 (nI q) zf zn co (nI b) td rg pa vl) → va_S (wr_in (ClW ox op xO xW xN xC xA xM xG xT xH xR xF xB xX ob oc oh hc hp ot yc yt cI cZ kn aO aW aN aC aA kS aM aG aT aH aR aF kF aB kT aX (nI n) f (nI q) zf zn co (nI b) td rg pa vl)) s.heap H locs → lv_has ls 2 [(0, .ref ox), (1, .int (nI i))] → wr_W p l e wsX4_putLabelsAsFound ({ frames := 0, cells := 0, slots := 0, locals := 0 } : Room) s m [.ref ox] below meth c D (ClW ox op xO xW xN xC xA xM xG xT xH xR xF xB xX ob oc oh hc hp ot yc yt cI cZ kn aO aW aN aC aA kS aM aG aT aH aR aF kF aB kT aX (nI n) f (nI q) zf zn co (nI b) td rg pa vl) (fun v w9 => v = none ∧ ∃ f9 : Nat → Int32, clB n (mLy P pl) f9 ∧ w9 = ClW ox op xO xW xN xC xA xM xG xT xH xR xF xB xX ob oc oh hc hp ot yc yt cI cZ kn aO aW aN aC aA kS aM aG aT aH aR aF kF aB kT aX (nI n) f9 (nI q) zf zn co (nI b) td rg pa vl) H locs (F0 m 2 ls []) from
    loop2 (n + 1) 0 f H locs ls (by omega) (by omega) (by rw [pfI_0]; exact hf) hP hD hS (lv_sub hl [1, 0] rfl)
  intro k2
  induction k2 with
  | zero => intro i f1 H locs ls h1 h2; exact absurd h2 (by omega)
  | succ k2 ih2 =>
    intro i f1 H locs ls hle2 hlt2 inv2 hP hD hS hl
    refine lv_iload_n hx hb dX4_putLabelsAsFound_2 rfl (lv_at hl 1 rfl) ?_
    refine lv_aload_n hx hb dX4_putLabelsAsFound_3 rfl (lv_at hl 0 rfl) ?_
    refine va_get (D := D) (ci := 4) (v := .ref ob) (C := RX4) (T := TX4) (N := 4) hx hb hts hinX4 hown hK hP 0 rfl rfl 0 (by decide) hw10 (fun _ h9 => h9) rfl dX4_putLabelsAsFound_4 ?_
    refine va_get (D := D) (ci := 0) (v := .int (nI n)) (C := RX0) (T := TX0) (N := 2) hx hb hts hinX0 hown hK hP 15 rfl rfl 1 (by decide) hw242 (fun _ h9 => h9) rfl dX4_putLabelsAsFound_7 ?_
    refine rd_icmp_ge_n (a := i) (b := n) (tgt := 40) (by omega) (by omega) hx hb dX4_putLabelsAsFound_10 (by decide) (fun c_10 => ?_) (fun c_10 => ?_)
    · have c_10n := Nat.not_lt.mpr c_10
      exact wr_vret hx hb hr hlocks hP hS rfl dX4_putLabelsAsFound_40 (by exact ⟨rfl, f1, pfI_ly c_10 inv2 hpl, rfl⟩)
    · have c_10n := Nat.not_le.mpr c_10
      refine lv_aload_n hx hb dX4_putLabelsAsFound_13 rfl (lv_at hl 0 rfl) ?_
      refine va_get (D := D) (ci := 4) (v := .ref ob) (C := RX4) (T := TX4) (N := 4) hx hb hts hinX4 hown hK hP 0 rfl rfl 0 (by decide) hw10 (fun _ h9 => h9) rfl dX4_putLabelsAsFound_14 ?_
      refine va_get (D := D) (ci := 0) (v := .ref oc) (C := RX0) (T := TX0) (N := 2) hx hb hts hinX0 hown hK hP 15 rfl rfl 0 (by decide) hw89 (fun _ h9 => h9) rfl dX4_putLabelsAsFound_17 ?_
      refine lv_bipush (v := 40) hx hb dX4_putLabelsAsFound_20 (by decide) ?_
      refine lv_iload_n hx hb dX4_putLabelsAsFound_22 rfl (lv_at hl 1 rfl) ?_
      refine lv_iadd hx hb dX4_putLabelsAsFound_23 ?_
      refine lv_asi (y := nI (40 + i)) (nI_add 40 i) ?_
      refine lv_aload_n hx hb dX4_putLabelsAsFound_24 rfl (lv_at hl 0 rfl) ?_
      refine va_get (D := D) (ci := 4) (v := .ref op) (C := RX4) (T := TX4) (N := 4) hx hb hts hinX4 hown hK hP 0 rfl rfl 3 (by decide) hw33 (fun _ h9 => h9) rfl dX4_putLabelsAsFound_25 ?_
      refine va_get (D := D) (ci := 2) (v := .ref xF) (C := RX2) (T := TX2) (N := 17) hx hb hts hinX2 hown hK hP 1 rfl rfl 12 (by decide) hw245 (fun _ h9 => h9) rfl dX4_putLabelsAsFound_28 ?_
      refine lv_iload_n hx hb dX4_putLabelsAsFound_31 rfl (lv_at hl 1 rfl) ?_
      refine rd_ald (q0 := 12) (t0 := 0) (j := i) (v := aF i) hx hb hK hP rfl rfl (rfl) (by omega) (by decide) (rfl) dX4_putLabelsAsFound_32 ?_
      refine wr_ast (q0 := 16) (t0 := 0) (j := 40 + i) hx hb hK hP hD hS rfl rfl (rfl) (by omega) (by decide) dX4_putLabelsAsFound_33 (fun H locs hP hD hS => ?_)
      obtain ⟨f_33, ef_33⟩ : ∃ zz9 : Nat → Int32, zz9 = upd f1 (40 + i) (aF i) := ⟨_, rfl⟩
      rw [← ef_33] at hP hD
      have hP : va_P D vwCl (ClW ox op xO xW xN xC xA xM xG xT xH xR xF xB xX ob oc oh hc hp ot yc yt cI cZ kn aO aW aN aC aA kS aM aG aT aH aR aF kF aB kT aX (nI n) f_33 (nI q) zf zn co (nI b) td rg pa vl) H := hP
      have hD : va_D (wr_in (ClW ox op xO xW xN xC xA xM xG xT xH xR xF xB xX ob oc oh hc hp ot yc yt cI cZ kn aO aW aN aC aA kS aM aG aT aH aR aF kF aB kT aX (nI n) f (nI q) zf zn co (nI b) td rg pa vl)) (ClW ox op xO xW xN xC xA xM xG xT xH xR xF xB xX ob oc oh hc hp ot yc yt cI cZ kn aO aW aN aC aA kS aM aG aT aH aR aF kF aB kT aX (nI n) f_33 (nI q) zf zn co (nI b) td rg pa vl) := hD
      refine lv_iinc (v := nI (i + 1)) (lv' := [(1, .int (nI (i + 1))), (0, .ref ox)]) hx hb dX4_putLabelsAsFound_34 hl (k := 1) rfl (nI_add i 1) (by decide) rfl (fun ls hl => ?_)
      refine lv_goto (tgt := 2) hx hb dX4_putLabelsAsFound_37 (by decide) ?_
      exact ih2 (i + 1) f_33 H locs ls (by omega) (by omega) (by exact pfI_step hn8 c_10 inv2 ef_33) hP hD hS (lv_sub hl [1, 0] rfl)
set_option maxHeartbeats 4000000 in
set_option maxRecDepth 100000 in
theorem c_X4_property (l : Launch) (D : va_G) {ox op xO xW xN xC xA xM xG xT xH xR xF xB xX ob oc oh hc hp ot yc yt : Nat} {cI : ClassId} {cZ : ClassId} {n q b : Nat} {P : Nat → Nat → Int32} {kn kS kF kT rg pa vl : Int32} {aO aW aN aC aA aM aG aT aH aR aF aB aX f zf zn co td : Nat → Int32} (hn8 : n ≤ 8) (hf : clB n P f) {i : Nat} (hi : i < n) {k : Nat} (hk : k < 9) : wr_M l yX4_property wsX4_property ({ frames := 5, cells := 0, slots := 0, locals := 118 } : Room) D (ClW ox op xO xW xN xC xA xM xG xT xH xR xF xB xX ob oc oh hc hp ot yc yt cI cZ kn aO aW aN aC aA kS aM aG aT aH aR aF kF aB kT aX (nI n) f (nI q) zf zn co (nI b) td rg pa vl) [(cI, .int), (cZ, .boolean)] [.ref ox, .int (nI i), .int (nI k)] (fun v w9 => v = some (.int (gPr n P i k)) ∧ w9 = ClW ox op xO xW xN xC xA xM xG xT xH xR xF xB xX ob oc oh hc hp ot yc yt cI cZ kn aO aW aN aC aA kS aM aG aT aH aR aF kF aB kT aX (nI n) f (nI q) zf zn co (nI b) td rg pa vl) := by
  refine wr_of (cc := cX4_property) (maxL := 3) (ret := some .int) (by decide) rfl (Nat.le_of_ble_eq_true rfl) ?_
  intro p e s m below meth c hx hb hr hml hts hown hlocks hP hK hN hZ hD hS ls hl
  have hown : s.vm.findClass RX4 = some m.cls := hown
  have hl : lv_has ls 3 [(0, .ref ox), (1, .int (nI i)), (2, .int (nI k))] := hl
  have hinX4 : ∀ w ∈ u_ws RX4 TX4 4, w ∈ wsX4_property := by decide +kernel
  have hw10 := hts (.fieldLink RX4 10 "CornerLabels" "board" "LCornerLabels$Board;") (by decide +kernel)
  have hinX0 : ∀ w ∈ u_ws RX0 TX0 2, w ∈ wsX4_property := by decide +kernel
  have hw89 := hts (.fieldLink RX4 89 "CornerLabels$Board" "cells" "[I") (by decide +kernel)
  suffices body : ∀ (H : Heap) (locs : List Loc), va_P D vwCl (ClW ox op xO xW xN xC xA xM xG xT xH xR xF xB xX ob oc oh hc hp ot yc yt cI cZ kn aO aW aN aC aA kS aM aG aT aH aR aF kF aB kT aX (nI n) f (nI q) zf zn co (nI b) td rg pa vl) H → va_D (wr_in (ClW ox op xO xW xN xC xA xM xG xT xH xR xF xB xX ob oc oh hc hp ot yc yt cI cZ kn aO aW aN aC aA kS aM aG aT aH aR aF kF aB kT aX (nI n) f (nI q) zf zn co (nI b) td rg pa vl)) (ClW ox op xO xW xN xC xA xM xG xT xH xR xF xB xX ob oc oh hc hp ot yc yt cI cZ kn aO aW aN aC aA kS aM aG aT aH aR aF kF aB kT aX (nI n) f (nI q) zf zn co (nI b) td rg pa vl) → va_S (wr_in (ClW ox op xO xW xN xC xA xM xG xT xH xR xF xB xX ob oc oh hc hp ot yc yt cI cZ kn aO aW aN aC aA kS aM aG aT aH aR aF kF aB kT aX (nI n) f (nI q) zf zn co (nI b) td rg pa vl)) s.heap H locs → wr_W p l e wsX4_property ({ frames := 5, cells := 0, slots := 0, locals := 118 } : Room) s m [.ref ox, .int (nI i), .int (nI k)] below meth c D (ClW ox op xO xW xN xC xA xM xG xT xH xR xF xB xX ob oc oh hc hp ot yc yt cI cZ kn aO aW aN aC aA kS aM aG aT aH aR aF kF aB kT aX (nI n) f (nI q) zf zn co (nI b) td rg pa vl) (fun v w9 => v = some (.int (gPr n P i k)) ∧ w9 = ClW ox op xO xW xN xC xA xM xG xT xH xR xF xB xX ob oc oh hc hp ot yc yt cI cZ kn aO aW aN aC aA kS aM aG aT aH aR aF kF aB kT aX (nI n) f (nI q) zf zn co (nI b) td rg pa vl) H locs (F0 m 0 ls []) from body _ _ hP hD hS
  clear hP hD hS
  intro H locs hP hD hS
  refine lv_iload_n hx hb dX4_property_0 rfl (lv_at hl 2 rfl) ?_
  rcases (show k = 0 ∨ k = 1 ∨ k = 2 ∨ k = 3 ∨ k = 4 ∨ k = 5 ∨ k = 6 ∨ k = 7 ∨ k = 8 by omega) with rfl | rfl | rfl | rfl | rfl | rfl | rfl | rfl | rfl
  · refine lv_tableOut (tgt := 55) hx hb dX4_property_1 (by decide) (by decide) ?_
    refine lv_aload_n hx hb dX4_property_55 rfl (lv_at hl 0 rfl) ?_
    refine va_get (D := D) (ci := 4) (v := .ref ob) (C := RX4) (T := TX4) (N := 4) hx hb hts hinX4 hown hK hP 0 rfl rfl 0 (by decide) hw10 (fun _ h9 => h9) rfl dX4_property_56 ?_
    refine va_get (D := D) (ci := 0) (v := .ref oc) (C := RX0) (T := TX0) (N := 2) hx hb hts hinX0 hown hK hP 15 rfl rfl 0 (by decide) hw89 (fun _ h9 => h9) rfl dX4_property_59 ?_
    refine lv_iload_n hx hb dX4_property_62 rfl (lv_at hl 2 rfl) ?_
    refine lv_bipush (v := 8) hx hb dX4_property_63 (by decide) ?_
    refine lv_imul hx hb dX4_property_65 ?_
    refine lv_asi (y := 0) (by decide) ?_
    refine lv_iload_n hx hb dX4_property_66 rfl (lv_at hl 1 rfl) ?_
    refine lv_iadd hx hb dX4_property_67 ?_
    refine lv_asi (y := nI (0 + i)) (nI_add 0 i) ?_
    refine rd_ald (q0 := 16) (t0 := 0) (j := 0 + i) (v := P i 0) hx hb hK hP rfl rfl (rfl) (by omega) (by decide) (by rw [show 0 + i = 8 * 0 + i by omega]; exact hf i hi 0 (by decide)) dX4_property_68 ?_
    exact wr_iret hx hb hr hlocks hP hS rfl dX4_property_69 (by exact ⟨by unfold gPr; simp, rfl⟩)
  · refine lv_tableOut (tgt := 55) hx hb dX4_property_1 (by decide) (by decide) ?_
    refine lv_aload_n hx hb dX4_property_55 rfl (lv_at hl 0 rfl) ?_
    refine va_get (D := D) (ci := 4) (v := .ref ob) (C := RX4) (T := TX4) (N := 4) hx hb hts hinX4 hown hK hP 0 rfl rfl 0 (by decide) hw10 (fun _ h9 => h9) rfl dX4_property_56 ?_
    refine va_get (D := D) (ci := 0) (v := .ref oc) (C := RX0) (T := TX0) (N := 2) hx hb hts hinX0 hown hK hP 15 rfl rfl 0 (by decide) hw89 (fun _ h9 => h9) rfl dX4_property_59 ?_
    refine lv_iload_n hx hb dX4_property_62 rfl (lv_at hl 2 rfl) ?_
    refine lv_bipush (v := 8) hx hb dX4_property_63 (by decide) ?_
    refine lv_imul hx hb dX4_property_65 ?_
    refine lv_asi (y := 8) (by decide) ?_
    refine lv_iload_n hx hb dX4_property_66 rfl (lv_at hl 1 rfl) ?_
    refine lv_iadd hx hb dX4_property_67 ?_
    refine lv_asi (y := nI (8 + i)) (nI_add 8 i) ?_
    refine rd_ald (q0 := 16) (t0 := 0) (j := 8 + i) (v := P i 1) hx hb hK hP rfl rfl (rfl) (by omega) (by decide) (by rw [show 8 + i = 8 * 1 + i by omega]; exact hf i hi 1 (by decide)) dX4_property_68 ?_
    exact wr_iret hx hb hr hlocks hP hS rfl dX4_property_69 (by exact ⟨by unfold gPr; simp, rfl⟩)
  · refine lv_tableOut (tgt := 55) hx hb dX4_property_1 (by decide) (by decide) ?_
    refine lv_aload_n hx hb dX4_property_55 rfl (lv_at hl 0 rfl) ?_
    refine va_get (D := D) (ci := 4) (v := .ref ob) (C := RX4) (T := TX4) (N := 4) hx hb hts hinX4 hown hK hP 0 rfl rfl 0 (by decide) hw10 (fun _ h9 => h9) rfl dX4_property_56 ?_
    refine va_get (D := D) (ci := 0) (v := .ref oc) (C := RX0) (T := TX0) (N := 2) hx hb hts hinX0 hown hK hP 15 rfl rfl 0 (by decide) hw89 (fun _ h9 => h9) rfl dX4_property_59 ?_
    refine lv_iload_n hx hb dX4_property_62 rfl (lv_at hl 2 rfl) ?_
    refine lv_bipush (v := 8) hx hb dX4_property_63 (by decide) ?_
    refine lv_imul hx hb dX4_property_65 ?_
    refine lv_asi (y := 16) (by decide) ?_
    refine lv_iload_n hx hb dX4_property_66 rfl (lv_at hl 1 rfl) ?_
    refine lv_iadd hx hb dX4_property_67 ?_
    refine lv_asi (y := nI (16 + i)) (nI_add 16 i) ?_
    refine rd_ald (q0 := 16) (t0 := 0) (j := 16 + i) (v := P i 2) hx hb hK hP rfl rfl (rfl) (by omega) (by decide) (by rw [show 16 + i = 8 * 2 + i by omega]; exact hf i hi 2 (by decide)) dX4_property_68 ?_
    exact wr_iret hx hb hr hlocks hP hS rfl dX4_property_69 (by exact ⟨by unfold gPr; simp, rfl⟩)
  · refine lv_tableOut (tgt := 55) hx hb dX4_property_1 (by decide) (by decide) ?_
    refine lv_aload_n hx hb dX4_property_55 rfl (lv_at hl 0 rfl) ?_
    refine va_get (D := D) (ci := 4) (v := .ref ob) (C := RX4) (T := TX4) (N := 4) hx hb hts hinX4 hown hK hP 0 rfl rfl 0 (by decide) hw10 (fun _ h9 => h9) rfl dX4_property_56 ?_
    refine va_get (D := D) (ci := 0) (v := .ref oc) (C := RX0) (T := TX0) (N := 2) hx hb hts hinX0 hown hK hP 15 rfl rfl 0 (by decide) hw89 (fun _ h9 => h9) rfl dX4_property_59 ?_
    refine lv_iload_n hx hb dX4_property_62 rfl (lv_at hl 2 rfl) ?_
    refine lv_bipush (v := 8) hx hb dX4_property_63 (by decide) ?_
    refine lv_imul hx hb dX4_property_65 ?_
    refine lv_asi (y := 24) (by decide) ?_
    refine lv_iload_n hx hb dX4_property_66 rfl (lv_at hl 1 rfl) ?_
    refine lv_iadd hx hb dX4_property_67 ?_
    refine lv_asi (y := nI (24 + i)) (nI_add 24 i) ?_
    refine rd_ald (q0 := 16) (t0 := 0) (j := 24 + i) (v := P i 3) hx hb hK hP rfl rfl (rfl) (by omega) (by decide) (by rw [show 24 + i = 8 * 3 + i by omega]; exact hf i hi 3 (by decide)) dX4_property_68 ?_
    exact wr_iret hx hb hr hlocks hP hS rfl dX4_property_69 (by exact ⟨by unfold gPr; simp, rfl⟩)
  · refine lv_tableOut (tgt := 55) hx hb dX4_property_1 (by decide) (by decide) ?_
    refine lv_aload_n hx hb dX4_property_55 rfl (lv_at hl 0 rfl) ?_
    refine va_get (D := D) (ci := 4) (v := .ref ob) (C := RX4) (T := TX4) (N := 4) hx hb hts hinX4 hown hK hP 0 rfl rfl 0 (by decide) hw10 (fun _ h9 => h9) rfl dX4_property_56 ?_
    refine va_get (D := D) (ci := 0) (v := .ref oc) (C := RX0) (T := TX0) (N := 2) hx hb hts hinX0 hown hK hP 15 rfl rfl 0 (by decide) hw89 (fun _ h9 => h9) rfl dX4_property_59 ?_
    refine lv_iload_n hx hb dX4_property_62 rfl (lv_at hl 2 rfl) ?_
    refine lv_bipush (v := 8) hx hb dX4_property_63 (by decide) ?_
    refine lv_imul hx hb dX4_property_65 ?_
    refine lv_asi (y := 32) (by decide) ?_
    refine lv_iload_n hx hb dX4_property_66 rfl (lv_at hl 1 rfl) ?_
    refine lv_iadd hx hb dX4_property_67 ?_
    refine lv_asi (y := nI (32 + i)) (nI_add 32 i) ?_
    refine rd_ald (q0 := 16) (t0 := 0) (j := 32 + i) (v := P i 4) hx hb hK hP rfl rfl (rfl) (by omega) (by decide) (by rw [show 32 + i = 8 * 4 + i by omega]; exact hf i hi 4 (by decide)) dX4_property_68 ?_
    exact wr_iret hx hb hr hlocks hP hS rfl dX4_property_69 (by exact ⟨by unfold gPr; simp, rfl⟩)
  · refine lv_tableOut (tgt := 55) hx hb dX4_property_1 (by decide) (by decide) ?_
    refine lv_aload_n hx hb dX4_property_55 rfl (lv_at hl 0 rfl) ?_
    refine va_get (D := D) (ci := 4) (v := .ref ob) (C := RX4) (T := TX4) (N := 4) hx hb hts hinX4 hown hK hP 0 rfl rfl 0 (by decide) hw10 (fun _ h9 => h9) rfl dX4_property_56 ?_
    refine va_get (D := D) (ci := 0) (v := .ref oc) (C := RX0) (T := TX0) (N := 2) hx hb hts hinX0 hown hK hP 15 rfl rfl 0 (by decide) hw89 (fun _ h9 => h9) rfl dX4_property_59 ?_
    refine lv_iload_n hx hb dX4_property_62 rfl (lv_at hl 2 rfl) ?_
    refine lv_bipush (v := 8) hx hb dX4_property_63 (by decide) ?_
    refine lv_imul hx hb dX4_property_65 ?_
    refine lv_asi (y := 40) (by decide) ?_
    refine lv_iload_n hx hb dX4_property_66 rfl (lv_at hl 1 rfl) ?_
    refine lv_iadd hx hb dX4_property_67 ?_
    refine lv_asi (y := nI (40 + i)) (nI_add 40 i) ?_
    refine rd_ald (q0 := 16) (t0 := 0) (j := 40 + i) (v := P i 5) hx hb hK hP rfl rfl (rfl) (by omega) (by decide) (by rw [show 40 + i = 8 * 5 + i by omega]; exact hf i hi 5 (by decide)) dX4_property_68 ?_
    exact wr_iret hx hb hr hlocks hP hS rfl dX4_property_69 (by exact ⟨by unfold gPr; simp, rfl⟩)
  · refine lv_tableIn (tgt := 28) hx hb dX4_property_1 (by decide) (by decide) rfl (by decide) ?_
    refine lv_aload_n hx hb dX4_property_28 rfl (lv_at hl 0 rfl) ?_
    refine va_get (D := D) (ci := 4) (v := .ref ob) (C := RX4) (T := TX4) (N := 4) hx hb hts hinX4 hown hK hP 0 rfl rfl 0 (by decide) hw10 (fun _ h9 => h9) rfl dX4_property_29 ?_
    refine lv_iload_n hx hb dX4_property_32 rfl (lv_at hl 1 rfl) ?_
    have hbd : bd_in (ClW ox op xO xW xN xC xA xM xG xT xH xR xF xB xX ob oc oh hc hp ot yc yt cI cZ kn aO aW aN aC aA kS aM aG aT aH aR aF kF aB kT aX (nI n) f (nI q) zf zn co (nI b) td rg pa vl) [(cI, .int), (cZ, .boolean)] ob n P := ⟨15, 16, 0, oc, cI, f, rfl, rfl, rfl, hn8, hf⟩
    refine rd_callV (As := [.int (nI i)]) (rest := []) ⟨hx, hb, hml, hown, hts⟩ (c_X0_openMask l D hbd hi) (cwV 1 hts gX4_property_X0_openMask rfl rfl rfl (by decide +kernel) ⟨by decide, by decide⟩) hK hN hP (q0 := 15) rfl rfl rfl hl.1 rfl (Nat.le_of_ble_eq_true rfl) ⟨by decide, by decide⟩ dX4_property_33 ?_
    exact wr_iret hx hb hr hlocks hP hS rfl dX4_property_36 (by exact ⟨by unfold gPr; simp, rfl⟩)
  · refine lv_tableIn (tgt := 37) hx hb dX4_property_1 (by decide) (by decide) rfl (by decide) ?_
    refine lv_aload_n hx hb dX4_property_37 rfl (lv_at hl 0 rfl) ?_
    refine va_get (D := D) (ci := 4) (v := .ref ob) (C := RX4) (T := TX4) (N := 4) hx hb hts hinX4 hown hK hP 0 rfl rfl 0 (by decide) hw10 (fun _ h9 => h9) rfl dX4_property_38 ?_
    refine lv_iload_n hx hb dX4_property_41 rfl (lv_at hl 1 rfl) ?_
    have hbd : bd_in (ClW ox op xO xW xN xC xA xM xG xT xH xR xF xB xX ob oc oh hc hp ot yc yt cI cZ kn aO aW aN aC aA kS aM aG aT aH aR aF kF aB kT aX (nI n) f (nI q) zf zn co (nI b) td rg pa vl) [(cI, .int), (cZ, .boolean)] ob n P := ⟨15, 16, 0, oc, cI, f, rfl, rfl, rfl, hn8, hf⟩
    refine rd_callV (As := [.int (nI i)]) (rest := []) ⟨hx, hb, hml, hown, hts⟩ (c_X0_freeMask l D hbd hi) (cwV 1 hts gX4_property_X0_freeMask rfl rfl rfl (by decide +kernel) ⟨by decide, by decide⟩) hK hN hP (q0 := 15) rfl rfl rfl hl.1 rfl (Nat.le_of_ble_eq_true rfl) ⟨by decide, by decide⟩ dX4_property_42 ?_
    exact wr_iret hx hb hr hlocks hP hS rfl dX4_property_45 (by exact ⟨by unfold gPr; simp, rfl⟩)
  · refine lv_tableIn (tgt := 46) hx hb dX4_property_1 (by decide) (by decide) rfl (by decide) ?_
    refine lv_aload_n hx hb dX4_property_46 rfl (lv_at hl 0 rfl) ?_
    refine va_get (D := D) (ci := 4) (v := .ref ob) (C := RX4) (T := TX4) (N := 4) hx hb hts hinX4 hown hK hP 0 rfl rfl 0 (by decide) hw10 (fun _ h9 => h9) rfl dX4_property_47 ?_
    refine lv_iload_n hx hb dX4_property_50 rfl (lv_at hl 1 rfl) ?_
    have hbd : bd_in (ClW ox op xO xW xN xC xA xM xG xT xH xR xF xB xX ob oc oh hc hp ot yc yt cI cZ kn aO aW aN aC aA kS aM aG aT aH aR aF kF aB kT aX (nI n) f (nI q) zf zn co (nI b) td rg pa vl) [(cI, .int), (cZ, .boolean)] ob n P := ⟨15, 16, 0, oc, cI, f, rfl, rfl, rfl, hn8, hf⟩
    refine rd_callV (As := [.int (nI i)]) (rest := []) ⟨hx, hb, hml, hown, hts⟩ (c_X0_leaderCrossings l D hbd hi) (cwV 1 hts gX4_property_X0_leaderCrossings rfl rfl rfl (by decide +kernel) ⟨by decide, by decide⟩) hK hN hP (q0 := 15) rfl rfl rfl hl.1 rfl (Nat.le_of_ble_eq_true rfl) ⟨by decide, by decide⟩ dX4_property_51 ?_
    exact wr_iret hx hb hr hlocks hP hS rfl dX4_property_54 (by exact ⟨by unfold gPr; simp, rfl⟩)
set_option maxHeartbeats 4000000 in
set_option maxRecDepth 100000 in
theorem c_X4_number (l : Launch) (D : va_G) {ox op xO xW xN xC xA xM xG xT xH xR xF xB xX ob oc oh hc hp ot yc yt : Nat} {cI : ClassId} {cZ : ClassId} {n q b : Nat} {P : Nat → Nat → Int32} {kn kS kF kT rg pa vl : Int32} {aO aW aN aC aA aM aG aT aH aR aF aB aX f zf zn co td : Nat → Int32} (hn8 : n ≤ 8) (hbk : bd_ok n P) (hf : clB n P f) {k : Nat} (hk : k < 9) : wr_M l yX4_number wsX4_number ({ frames := 5, cells := 0, slots := 0, locals := 121 } : Room) D (ClW ox op xO xW xN xC xA xM xG xT xH xR xF xB xX ob oc oh hc hp ot yc yt cI cZ kn aO aW aN aC aA kS aM aG aT aH aR aF kF aB kT aX (nI n) f (nI q) zf zn co (nI b) td rg pa vl) [(cI, .int), (cZ, .boolean)] [.ref ox, .int (nI k)] (fun v w9 => v = some (.int (mCnt n P (nI q) k)) ∧ ∃ (kn9 : Int32) (aO9 aW9 aN9 aC9 : Nat → Int32), w9 = ClW ox op xO xW xN xC xA xM xG xT xH xR xF xB xX ob oc oh hc hp ot yc yt cI cZ kn9 aO9 aW9 aN9 aC9 aA kS aM aG aT aH aR aF kF aB kT aX (nI n) f (nI q) zf zn co (nI b) td rg pa vl) := by
  refine wr_of (cc := cX4_number) (maxL := 2) (ret := some .int) (by decide) rfl (Nat.le_of_ble_eq_true rfl) ?_
  intro p e s m below meth c hx hb hr hml hts hown hlocks hP hK hN hZ hD hS ls hl
  have hown : s.vm.findClass RX4 = some m.cls := hown
  have hl : lv_has ls 2 [(0, .ref ox), (1, .int (nI k))] := hl
  have hinX4 : ∀ w ∈ u_ws RX4 TX4 4, w ∈ wsX4_number := by decide +kernel
  have hw10 := hts (.fieldLink RX4 10 "CornerLabels" "board" "LCornerLabels$Board;") (by decide +kernel)
  have hinX0 : ∀ w ∈ u_ws RX0 TX0 2, w ∈ wsX4_number := by decide +kernel
  have hw242 := hts (.fieldLink RX4 242 "CornerLabels$Board" "points" "I") (by decide +kernel)
  have hw33 := hts (.fieldLink RX4 33 "CornerLabels" "plans" "LCornerLabels$Plans;") (by decide +kernel)
  have hw19 := hts (.fieldLink RX4 19 "CornerLabels" "history" "LCornerLabels$History;") (by decide +kernel)
  have hinX1 : ∀ w ∈ u_ws RX1 TX1 3, w ∈ wsX4_number := by decide +kernel
  have hw164 := hts (.fieldLink RX4 164 "CornerLabels$History" "states" "I") (by decide +kernel)
  suffices body : ∀ (H : Heap) (locs : List Loc), va_P D vwCl (ClW ox op xO xW xN xC xA xM xG xT xH xR xF xB xX ob oc oh hc hp ot yc yt cI cZ kn aO aW aN aC aA kS aM aG aT aH aR aF kF aB kT aX (nI n) f (nI q) zf zn co (nI b) td rg pa vl) H → va_D (wr_in (ClW ox op xO xW xN xC xA xM xG xT xH xR xF xB xX ob oc oh hc hp ot yc yt cI cZ kn aO aW aN aC aA kS aM aG aT aH aR aF kF aB kT aX (nI n) f (nI q) zf zn co (nI b) td rg pa vl)) (ClW ox op xO xW xN xC xA xM xG xT xH xR xF xB xX ob oc oh hc hp ot yc yt cI cZ kn aO aW aN aC aA kS aM aG aT aH aR aF kF aB kT aX (nI n) f (nI q) zf zn co (nI b) td rg pa vl) → va_S (wr_in (ClW ox op xO xW xN xC xA xM xG xT xH xR xF xB xX ob oc oh hc hp ot yc yt cI cZ kn aO aW aN aC aA kS aM aG aT aH aR aF kF aB kT aX (nI n) f (nI q) zf zn co (nI b) td rg pa vl)) s.heap H locs → wr_W p l e wsX4_number ({ frames := 5, cells := 0, slots := 0, locals := 121 } : Room) s m [.ref ox, .int (nI k)] below meth c D (ClW ox op xO xW xN xC xA xM xG xT xH xR xF xB xX ob oc oh hc hp ot yc yt cI cZ kn aO aW aN aC aA kS aM aG aT aH aR aF kF aB kT aX (nI n) f (nI q) zf zn co (nI b) td rg pa vl) (fun v w9 => v = some (.int (mCnt n P (nI q) k)) ∧ ∃ (kn9 : Int32) (aO9 aW9 aN9 aC9 : Nat → Int32), w9 = ClW ox op xO xW xN xC xA xM xG xT xH xR xF xB xX ob oc oh hc hp ot yc yt cI cZ kn9 aO9 aW9 aN9 aC9 aA kS aM aG aT aH aR aF kF aB kT aX (nI n) f (nI q) zf zn co (nI b) td rg pa vl) H locs (F0 m 0 ls []) from body _ _ hP hD hS
  clear hP hD hS
  intro H locs hP hD hS
  refine lv_iload_n hx hb dX4_number_0 rfl (lv_at hl 1 rfl) ?_
  rcases (show k = 0 ∨ k = 1 ∨ k = 2 ∨ k = 3 ∨ k = 4 ∨ k = 5 ∨ k = 6 ∨ k = 7 ∨ k = 8 by omega) with rfl | rfl | rfl | rfl | rfl | rfl | rfl | rfl | rfl
  · refine lv_tableIn (tgt := 48) hx hb dX4_number_1 (by decide) (by decide) rfl (by decide) ?_
    refine lv_aload_n hx hb dX4_number_48 rfl (lv_at hl 0 rfl) ?_
    refine va_get (D := D) (ci := 4) (v := .ref ob) (C := RX4) (T := TX4) (N := 4) hx hb hts hinX4 hown hK hP 0 rfl rfl 0 (by decide) hw10 (fun _ h9 => h9) rfl dX4_number_49 ?_
    refine va_get (D := D) (ci := 0) (v := .int (nI n)) (C := RX0) (T := TX0) (N := 2) hx hb hts hinX0 hown hK hP 15 rfl rfl 1 (by decide) hw242 (fun _ h9 => h9) rfl dX4_number_52 ?_
    exact wr_iret hx hb hr hlocks hP hS rfl dX4_number_55 (by exact ⟨rfl, _, _, _, _, _, rfl⟩)
  · refine lv_tableIn (tgt := 56) hx hb dX4_number_1 (by decide) (by decide) rfl (by decide) ?_
    refine lv_aload_n hx hb dX4_number_56 rfl (lv_at hl 0 rfl) ?_
    refine va_get (D := D) (ci := 4) (v := .ref ob) (C := RX4) (T := TX4) (N := 4) hx hb hts hinX4 hown hK hP 0 rfl rfl 0 (by decide) hw10 (fun _ h9 => h9) rfl dX4_number_57 ?_
    have hbd : bd_in (ClW ox op xO xW xN xC xA xM xG xT xH xR xF xB xX ob oc oh hc hp ot yc yt cI cZ kn aO aW aN aC aA kS aM aG aT aH aR aF kF aB kT aX (nI n) f (nI q) zf zn co (nI b) td rg pa vl) [(cI, .int), (cZ, .boolean)] ob n P := ⟨15, 16, 0, oc, cI, f, rfl, rfl, rfl, hn8, hf⟩
    refine rd_callV (As := []) (rest := []) ⟨hx, hb, hml, hown, hts⟩ (c_X0_standingLabels l D hbd) (cwV 0 hts gX4_number_X0_standingLabels rfl rfl rfl (by decide +kernel) ⟨by decide, by decide⟩) hK hN hP (q0 := 15) rfl rfl rfl hl.1 rfl (Nat.le_of_ble_eq_true rfl) ⟨by decide, by decide⟩ dX4_number_60 ?_
    exact wr_iret hx hb hr hlocks hP hS rfl dX4_number_63 (by exact ⟨rfl, _, _, _, _, _, rfl⟩)
  · refine lv_tableIn (tgt := 64) hx hb dX4_number_1 (by decide) (by decide) rfl (by decide) ?_
    refine lv_aload_n hx hb dX4_number_64 rfl (lv_at hl 0 rfl) ?_
    refine va_get (D := D) (ci := 4) (v := .ref ob) (C := RX4) (T := TX4) (N := 4) hx hb hts hinX4 hown hK hP 0 rfl rfl 0 (by decide) hw10 (fun _ h9 => h9) rfl dX4_number_65 ?_
    have hbd : bd_in (ClW ox op xO xW xN xC xA xM xG xT xH xR xF xB xX ob oc oh hc hp ot yc yt cI cZ kn aO aW aN aC aA kS aM aG aT aH aR aF kF aB kT aX (nI n) f (nI q) zf zn co (nI b) td rg pa vl) [(cI, .int), (cZ, .boolean)] ob n P := ⟨15, 16, 0, oc, cI, f, rfl, rfl, rfl, hn8, hf⟩
    refine rd_callV (As := []) (rest := []) ⟨hx, hb, hml, hown, hts⟩ (c_X0_standingWeight l D hbd) (cwV 0 hts gX4_number_X0_standingWeight rfl rfl rfl (by decide +kernel) ⟨by decide, by decide⟩) hK hN hP (q0 := 15) rfl rfl rfl hl.1 rfl (Nat.le_of_ble_eq_true rfl) ⟨by decide, by decide⟩ dX4_number_68 ?_
    exact wr_iret hx hb hr hlocks hP hS rfl dX4_number_71 (by exact ⟨by rw [gSW_mW]; rfl, _, _, _, _, _, rfl⟩)
  · refine lv_tableIn (tgt := 72) hx hb dX4_number_1 (by decide) (by decide) rfl (by decide) ?_
    refine lv_aload_n hx hb dX4_number_72 rfl (lv_at hl 0 rfl) ?_
    refine va_get (D := D) (ci := 4) (v := .ref ob) (C := RX4) (T := TX4) (N := 4) hx hb hts hinX4 hown hK hP 0 rfl rfl 0 (by decide) hw10 (fun _ h9 => h9) rfl dX4_number_73 ?_
    have hbd : bd_in (ClW ox op xO xW xN xC xA xM xG xT xH xR xF xB xX ob oc oh hc hp ot yc yt cI cZ kn aO aW aN aC aA kS aM aG aT aH aR aF kF aB kT aX (nI n) f (nI q) zf zn co (nI b) td rg pa vl) [(cI, .int), (cZ, .boolean)] ob n P := ⟨15, 16, 0, oc, cI, f, rfl, rfl, rfl, hn8, hf⟩
    refine rd_callV (As := []) (rest := []) ⟨hx, hb, hml, hown, hts⟩ (c_X0_allWeight l D hbd) (cwV 0 hts gX4_number_X0_allWeight rfl rfl rfl (by decide +kernel) ⟨by decide, by decide⟩) hK hN hP (q0 := 15) rfl rfl rfl hl.1 rfl (Nat.le_of_ble_eq_true rfl) ⟨by decide, by decide⟩ dX4_number_76 ?_
    refine lv_aload_n hx hb dX4_number_79 rfl (lv_at hl 0 rfl) ?_
    refine va_get (D := D) (ci := 4) (v := .ref ob) (C := RX4) (T := TX4) (N := 4) hx hb hts hinX4 hown hK hP 0 rfl rfl 0 (by decide) hw10 (fun _ h9 => h9) rfl dX4_number_80 ?_
    have hbd : bd_in (ClW ox op xO xW xN xC xA xM xG xT xH xR xF xB xX ob oc oh hc hp ot yc yt cI cZ kn aO aW aN aC aA kS aM aG aT aH aR aF kF aB kT aX (nI n) f (nI q) zf zn co (nI b) td rg pa vl) [(cI, .int), (cZ, .boolean)] ob n P := ⟨15, 16, 0, oc, cI, f, rfl, rfl, rfl, hn8, hf⟩
    refine rd_callV (As := []) (rest := [.int (gAW n P)]) ⟨hx, hb, hml, hown, hts⟩ (c_X0_standingWeight l D hbd) (cwV 0 hts gX4_number_X0_standingWeight rfl rfl rfl (by decide +kernel) ⟨by decide, by decide⟩) hK hN hP (q0 := 15) rfl rfl rfl hl.1 rfl (Nat.le_of_ble_eq_true rfl) ⟨by decide, by decide⟩ dX4_number_83 ?_
    refine lv_isub hx hb dX4_number_86 ?_
    exact wr_iret hx hb hr hlocks hP hS rfl dX4_number_87 (by exact ⟨by rw [w3_same]; rfl, _, _, _, _, _, rfl⟩)
  · refine lv_tableIn (tgt := 88) hx hb dX4_number_1 (by decide) (by decide) rfl (by decide) ?_
    refine lv_aload_n hx hb dX4_number_88 rfl (lv_at hl 0 rfl) ?_
    refine va_get (D := D) (ci := 4) (v := .ref ob) (C := RX4) (T := TX4) (N := 4) hx hb hts hinX4 hown hK hP 0 rfl rfl 0 (by decide) hw10 (fun _ h9 => h9) rfl dX4_number_89 ?_
    have hbd : bd_in (ClW ox op xO xW xN xC xA xM xG xT xH xR xF xB xX ob oc oh hc hp ot yc yt cI cZ kn aO aW aN aC aA kS aM aG aT aH aR aF kF aB kT aX (nI n) f (nI q) zf zn co (nI b) td rg pa vl) [(cI, .int), (cZ, .boolean)] ob n P := ⟨15, 16, 0, oc, cI, f, rfl, rfl, rfl, hn8, hf⟩
    refine rd_callV (As := []) (rest := []) ⟨hx, hb, hml, hown, hts⟩ (c_X0_standingSquares l D hbd) (cwV 0 hts gX4_number_X0_standingSquares rfl rfl rfl (by decide +kernel) ⟨by decide, by decide⟩) hK hN hP (q0 := 15) rfl rfl rfl hl.1 rfl (Nat.le_of_ble_eq_true rfl) ⟨by decide, by decide⟩ dX4_number_92 ?_
    exact wr_iret hx hb hr hlocks hP hS rfl dX4_number_95 (by exact ⟨rfl, _, _, _, _, _, rfl⟩)
  · refine lv_tableIn (tgt := 96) hx hb dX4_number_1 (by decide) (by decide) rfl (by decide) ?_
    refine lv_aload_n hx hb dX4_number_96 rfl (lv_at hl 0 rfl) ?_
    refine va_get (D := D) (ci := 4) (v := .ref ob) (C := RX4) (T := TX4) (N := 4) hx hb hts hinX4 hown hK hP 0 rfl rfl 0 (by decide) hw10 (fun _ h9 => h9) rfl dX4_number_97 ?_
    have hbd : bd_in (ClW ox op xO xW xN xC xA xM xG xT xH xR xF xB xX ob oc oh hc hp ot yc yt cI cZ kn aO aW aN aC aA kS aM aG aT aH aR aF kF aB kT aX (nI n) f (nI q) zf zn co (nI b) td rg pa vl) [(cI, .int), (cZ, .boolean)] ob n P := ⟨15, 16, 0, oc, cI, f, rfl, rfl, rfl, hn8, hf⟩
    refine rd_callV (As := []) (rest := []) ⟨hx, hb, hml, hown, hts⟩ (c_X0_pointsWithoutOpenCorner l D hbd) (cwV 0 hts gX4_number_X0_pointsWithoutOpenCorner rfl rfl rfl (by decide +kernel) ⟨by decide, by decide⟩) hK hN hP (q0 := 15) rfl rfl rfl hl.1 rfl (Nat.le_of_ble_eq_true rfl) ⟨by decide, by decide⟩ dX4_number_100 ?_
    exact wr_iret hx hb hr hlocks hP hS rfl dX4_number_103 (by exact ⟨rfl, _, _, _, _, _, rfl⟩)
  · refine lv_tableIn (tgt := 104) hx hb dX4_number_1 (by decide) (by decide) rfl (by decide) ?_
    refine lv_aload_n hx hb dX4_number_104 rfl (lv_at hl 0 rfl) ?_
    refine va_get (D := D) (ci := 4) (v := .ref op) (C := RX4) (T := TX4) (N := 4) hx hb hts hinX4 hown hK hP 0 rfl rfl 3 (by decide) hw33 (fun _ h9 => h9) rfl dX4_number_105 ?_
    refine lv_aload_n hx hb dX4_number_108 rfl (lv_at hl 0 rfl) ?_
    refine va_get (D := D) (ci := 4) (v := .ref ob) (C := RX4) (T := TX4) (N := 4) hx hb hts hinX4 hown hK hP 0 rfl rfl 0 (by decide) hw10 (fun _ h9 => h9) rfl dX4_number_109 ?_
    refine wr_callV (As := [.ref ob]) (rest := []) ⟨hx, hb, hml, hown, hts⟩ (c_X2_look (P := P) l D hn8 hf) (cwV 1 hts gX4_number_X2_look rfl rfl rfl (by decide +kernel) ⟨by decide, by decide⟩) hK hN hZ hP hD hS [1, 2, 3, 4, 5, 6, 7, 8, 9, 10, 11, 12, 13, 14, 15, 16] [0, 1] rfl (by decide) rfl (q0 := 1) rfl rfl rfl hl.1 rfl (Nat.le_of_ble_eq_true rfl) ⟨by decide, by decide⟩ dX4_number_112 (fun v9 w9 H locs hp9 hP hD hS => ?_)
    obtain ⟨aO_112, aW_112, aN_112, aC_112, hO_112, hC_112, rfl, rfl⟩ := hp9
    have hP : va_P D vwCl (ClW ox op xO xW xN xC xA xM xG xT xH xR xF xB xX ob oc oh hc hp ot yc yt cI cZ (nI n) aO_112 aW_112 aN_112 aC_112 aA kS aM aG aT aH aR aF kF aB kT aX (nI n) f (nI q) zf zn co (nI b) td rg pa vl) H := hP
    have hD : va_D (wr_in (ClW ox op xO xW xN xC xA xM xG xT xH xR xF xB xX ob oc oh hc hp ot yc yt cI cZ kn aO aW aN aC aA kS aM aG aT aH aR aF kF aB kT aX (nI n) f (nI q) zf zn co (nI b) td rg pa vl)) (ClW ox op xO xW xN xC xA xM xG xT xH xR xF xB xX ob oc oh hc hp ot yc yt cI cZ (nI n) aO_112 aW_112 aN_112 aC_112 aA kS aM aG aT aH aR aF kF aB kT aX (nI n) f (nI q) zf zn co (nI b) td rg pa vl) := hD
    refine W.eq (g2 := F0 m 115 ls []) rfl ?_
    refine lv_aload_n hx hb dX4_number_115 rfl (lv_at hl 0 rfl) ?_
    refine va_get (D := D) (ci := 4) (v := .ref op) (C := RX4) (T := TX4) (N := 4) hx hb hts hinX4 hown hK hP 0 rfl rfl 3 (by decide) hw33 (fun _ h9 => h9) rfl dX4_number_116 ?_
    refine wr_callV (As := []) (rest := []) ⟨hx, hb, hml, hown, hts⟩ (c_X2_clashingPairs (P := P) l D hn8) (cwV 0 hts gX4_number_X2_clashingPairs rfl rfl rfl (by decide +kernel) ⟨by decide, by decide⟩) hK hN hZ hP hD hS [1, 2, 3, 4, 5, 6, 7, 8, 9, 10, 11, 12, 13, 14, 15, 16] [0, 1] rfl (by decide) rfl (q0 := 1) rfl rfl rfl hl.1 rfl (Nat.le_of_ble_eq_true rfl) ⟨by decide, by decide⟩ dX4_number_119 (fun v9 w9 H locs hp9 hP hD hS => ?_)
    obtain ⟨rfl, rfl⟩ := hp9
    have hP : va_P D vwCl (ClW ox op xO xW xN xC xA xM xG xT xH xR xF xB xX ob oc oh hc hp ot yc yt cI cZ (nI n) aO_112 aW_112 aN_112 aC_112 aA kS aM aG aT aH aR aF kF aB kT aX (nI n) f (nI q) zf zn co (nI b) td rg pa vl) H := hP
    have hD : va_D (wr_in (ClW ox op xO xW xN xC xA xM xG xT xH xR xF xB xX ob oc oh hc hp ot yc yt cI cZ kn aO aW aN aC aA kS aM aG aT aH aR aF kF aB kT aX (nI n) f (nI q) zf zn co (nI b) td rg pa vl)) (ClW ox op xO xW xN xC xA xM xG xT xH xR xF xB xX ob oc oh hc hp ot yc yt cI cZ (nI n) aO_112 aW_112 aN_112 aC_112 aA kS aM aG aT aH aR aF kF aB kT aX (nI n) f (nI q) zf zn co (nI b) td rg pa vl) := hD
    refine W.eq (g2 := F0 m 122 ls [.int (gCP n aC_112)]) rfl ?_
    exact wr_iret hx hb hr hlocks hP hS rfl dX4_number_122 (by exact ⟨by rw [gCP_same hn8 hO_112 hC_112]; rfl, _, _, _, _, _, rfl⟩)
  · refine lv_tableIn (tgt := 123) hx hb dX4_number_1 (by decide) (by decide) rfl (by decide) ?_
    refine lv_aload_n hx hb dX4_number_123 rfl (lv_at hl 0 rfl) ?_
    refine va_get (D := D) (ci := 4) (v := .ref ob) (C := RX4) (T := TX4) (N := 4) hx hb hts hinX4 hown hK hP 0 rfl rfl 0 (by decide) hw10 (fun _ h9 => h9) rfl dX4_number_124 ?_
    have hbd : bd_in (ClW ox op xO xW xN xC xA xM xG xT xH xR xF xB xX ob oc oh hc hp ot yc yt cI cZ kn aO aW aN aC aA kS aM aG aT aH aR aF kF aB kT aX (nI n) f (nI q) zf zn co (nI b) td rg pa vl) [(cI, .int), (cZ, .boolean)] ob n P := ⟨15, 16, 0, oc, cI, f, rfl, rfl, rfl, hn8, hf⟩
    refine rd_callV (As := []) (rest := []) ⟨hx, hb, hml, hown, hts⟩ (c_X0_crossingsOfDropped l D hbd) (cwV 0 hts gX4_number_X0_crossingsOfDropped rfl rfl rfl (by decide +kernel) ⟨by decide, by decide⟩) hK hN hP (q0 := 15) rfl rfl rfl hl.1 rfl (Nat.le_of_ble_eq_true rfl) ⟨by decide, by decide⟩ dX4_number_127 ?_
    exact wr_iret hx hb hr hlocks hP hS rfl dX4_number_130 (by exact ⟨rfl, _, _, _, _, _, rfl⟩)
  · refine lv_tableOut (tgt := 131) hx hb dX4_number_1 (by decide) (by decide) ?_
    refine lv_aload_n hx hb dX4_number_131 rfl (lv_at hl 0 rfl) ?_
    refine va_get (D := D) (ci := 4) (v := .ref oh) (C := RX4) (T := TX4) (N := 4) hx hb hts hinX4 hown hK hP 0 rfl rfl 1 (by decide) hw19 (fun _ h9 => h9) rfl dX4_number_132 ?_
    refine va_get (D := D) (ci := 1) (v := .int (nI q)) (C := RX1) (T := TX1) (N := 3) hx hb hts hinX1 hown hK hP 17 rfl rfl 2 (by decide) hw164 (fun _ h9 => h9) rfl dX4_number_135 ?_
    exact wr_iret hx hb hr hlocks hP hS rfl dX4_number_138 (by exact ⟨rfl, _, _, _, _, _, rfl⟩)
set_option maxHeartbeats 4000000 in
set_option maxRecDepth 100000 in
theorem c_X4_findDearest (l : Launch) (D : va_G) {ox op xO xW xN xC xA xM xG xT xH xR xF xB xX ob oc oh hc hp ot yc yt : Nat} {cI : ClassId} {cZ : ClassId} {n q b : Nat} {P : Nat → Nat → Int32} {kn kS kF kT rg pa vl : Int32} {aO aW aN aC aA aM aG aT aH aR aF aB aX f zf zn co td : Nat → Int32} (hn8 : n ≤ 8) (hbk : bd_ok n P) (hf : clB n P f) (hX : ∀ j, j < n → aX j = hvW n P (nI j)) : wr_M l yX4_findDearest wsX4_findDearest ({ frames := 0, cells := 0, slots := 0, locals := 0 } : Room) D (ClW ox op xO xW xN xC xA xM xG xT xH xR xF xB xX ob oc oh hc hp ot yc yt cI cZ kn aO aW aN aC aA kS aM aG aT aH aR aF kF aB kT aX (nI n) f (nI q) zf zn co (nI b) td rg pa vl) [(cI, .int), (cZ, .boolean)] [.ref ox] (fun v w9 => v = some (.int (mDear n P)) ∧ w9 = ClW ox op xO xW xN xC xA xM xG xT xH xR xF xB xX ob oc oh hc hp ot yc yt cI cZ kn aO aW aN aC aA kS aM aG aT aH aR aF kF aB kT aX (nI n) f (nI q) zf zn co (nI b) td rg pa vl) := by
  refine wr_of (cc := cX4_findDearest) (maxL := 5) (ret := some .int) (by decide) rfl (Nat.le_of_ble_eq_true rfl) ?_
  intro p e s m below meth c hx hb hr hml hts hown hlocks hP hK hN hZ hD hS ls hl
  have hown : s.vm.findClass RX4 = some m.cls := hown
  have hl : lv_has ls 5 [(0, .ref ox)] := hl
  have hinX4 : ∀ w ∈ u_ws RX4 TX4 4, w ∈ wsX4_findDearest := by decide +kernel
  have hw10 := hts (.fieldLink RX4 10 "CornerLabels" "board" "LCornerLabels$Board;") (by decide +kernel)
  have hinX0 : ∀ w ∈ u_ws RX0 TX0 2, w ∈ wsX4_findDearest := by decide +kernel
  have hw242 := hts (.fieldLink RX4 242 "CornerLabels$Board" "points" "I") (by decide +kernel)
  have hw89 := hts (.fieldLink RX4 89 "CornerLabels$Board" "cells" "[I") (by decide +kernel)
  have hw33 := hts (.fieldLink RX4 33 "CornerLabels" "plans" "LCornerLabels$Plans;") (by decide +kernel)
  have hinX2 : ∀ w ∈ u_ws RX2 TX2 17, w ∈ wsX4_findDearest := by decide +kernel
  have hw269 := hts (.fieldLink RX4 269 "CornerLabels$Plans" "weightsWithout" "[I") (by decide +kernel)
  suffices body : ∀ (H : Heap) (locs : List Loc), va_P D vwCl (ClW ox op xO xW xN xC xA xM xG xT xH xR xF xB xX ob oc oh hc hp ot yc yt cI cZ kn aO aW aN aC aA kS aM aG aT aH aR aF kF aB kT aX (nI n) f (nI q) zf zn co (nI b) td rg pa vl) H → va_D (wr_in (ClW ox op xO xW xN xC xA xM xG xT xH xR xF xB xX ob oc oh hc hp ot yc yt cI cZ kn aO aW aN aC aA kS aM aG aT aH aR aF kF aB kT aX (nI n) f (nI q) zf zn co (nI b) td rg pa vl)) (ClW ox op xO xW xN xC xA xM xG xT xH xR xF xB xX ob oc oh hc hp ot yc yt cI cZ kn aO aW aN aC aA kS aM aG aT aH aR aF kF aB kT aX (nI n) f (nI q) zf zn co (nI b) td rg pa vl) → va_S (wr_in (ClW ox op xO xW xN xC xA xM xG xT xH xR xF xB xX ob oc oh hc hp ot yc yt cI cZ kn aO aW aN aC aA kS aM aG aT aH aR aF kF aB kT aX (nI n) f (nI q) zf zn co (nI b) td rg pa vl)) s.heap H locs → wr_W p l e wsX4_findDearest ({ frames := 0, cells := 0, slots := 0, locals := 0 } : Room) s m [.ref ox] below meth c D (ClW ox op xO xW xN xC xA xM xG xT xH xR xF xB xX ob oc oh hc hp ot yc yt cI cZ kn aO aW aN aC aA kS aM aG aT aH aR aF kF aB kT aX (nI n) f (nI q) zf zn co (nI b) td rg pa vl) (fun v w9 => v = some (.int (mDear n P)) ∧ w9 = ClW ox op xO xW xN xC xA xM xG xT xH xR xF xB xX ob oc oh hc hp ot yc yt cI cZ kn aO aW aN aC aA kS aM aG aT aH aR aF kF aB kT aX (nI n) f (nI q) zf zn co (nI b) td rg pa vl) H locs (F0 m 0 ls []) from body _ _ hP hD hS
  clear hP hD hS
  intro H locs hP hD hS
  refine lv_iconst (v := (-1)) hx hb dX4_findDearest_0 (by decide) ?_
  refine lv_istore_n (lv' := [(1, .int (-1)), (0, .ref ox)]) hx hb dX4_findDearest_1 rfl hl (by decide) rfl (fun ls hl => ?_)
  refine lv_iconst (v := 0) hx hb dX4_findDearest_2 (by decide) ?_
  refine lv_istore_n (lv' := [(2, .int 0), (1, .int (-1)), (0, .ref ox)]) hx hb dX4_findDearest_3 rfl hl (by decide) rfl (fun ls hl => ?_)
  refine lv_iconst (v := 0) hx hb dX4_findDearest_4 (by decide) ?_
  refine lv_istore_n (lv' := [(3, .int 0), (2, .int 0), (1, .int (-1)), (0, .ref ox)]) hx hb dX4_findDearest_5 rfl hl (by decide) rfl (fun ls hl => ?_)
  suffices loop6 : ∀ (k6 i : Nat) (fd : Int32) (gr : Int32) (H : Heap) (locs : List Loc) (ls : Array Slot), i ≤ n → n + 1 ≤ i + k6 → (gP n (cDrF n P) 0 (-1, 0) = gP n (cDrF n P) i (fd, gr)) → va_P D vwCl (ClW ox op xO xW xN xC xA xM xG xT xH xR xF xB xX ob oc oh hc hp ot yc yt cI cZ kn aO aW aN aC aA kS aM aG aT aH aR aF kF aB kT aX (nI n) f (nI q) zf zn co (nI b) td rg pa vl) H → va_D (wr_in (ClW ox op xO xW xN xC xA xM xG xT xH xR xF xB xX ob oc oh hc hp ot yc yt cI cZ kn aO aW aN aC aA kS aM aG aT aH aR aF kF aB kT aX (nI n) f (nI q) zf zn co (nI b) td rg pa vl)) (ClW ox op xO xW xN xC xA xM xG xT xH xR xF xB xX ob oc oh hc hp ot yc yt cI cZ kn aO aW aN aC aA kS aM aG aT aH aR aF kF aB kT aX (nI n) f (nI q) zf zn co (nI b) td rg pa vl) → va_S (wr_in (ClW ox op xO xW xN xC xA xM xG xT xH xR xF xB xX ob oc oh hc hp ot yc yt cI cZ kn aO aW aN aC aA kS aM aG aT aH aR aF kF aB kT aX (nI n) f (nI q) zf zn co (nI b) td rg pa vl)) s.heap H locs → lv_has ls 5 [(0, .ref ox), (1, .int fd), (2, .int gr), (3, .int (nI i))] → wr_W p l e wsX4_findDearest ({ frames := 0, cells := 0, slots := 0, locals := 0 } : Room) s m [.ref ox] below meth c D (ClW ox op xO xW xN xC xA xM xG xT xH xR xF xB xX ob oc oh hc hp ot yc yt cI cZ kn aO aW aN aC aA kS aM aG aT aH aR aF kF aB kT aX (nI n) f (nI q) zf zn co (nI b) td rg pa vl) (fun v w9 => v = some (.int (mDear n P)) ∧ w9 = ClW ox op xO xW xN xC xA xM xG xT xH xR xF xB xX ob oc oh hc hp ot yc yt cI cZ kn aO aW aN aC aA kS aM aG aT aH aR aF kF aB kT aX (nI n) f (nI q) zf zn co (nI b) td rg pa vl) H locs (F0 m 6 ls []) from
    loop6 (n + 1) 0 (-1) 0 H locs ls (by omega) (by omega) (by rfl) hP hD hS (lv_sub hl [3, 2, 1, 0] rfl)
  intro k6
  induction k6 with
  | zero => intro i fd gr H locs ls h1 h2; exact absurd h2 (by omega)
  | succ k6 ih6 =>
    intro i fd gr H locs ls hle6 hlt6 inv6 hP hD hS hl
    refine lv_iload_n hx hb dX4_findDearest_6 rfl (lv_at hl 3 rfl) ?_
    refine lv_aload_n hx hb dX4_findDearest_7 rfl (lv_at hl 0 rfl) ?_
    refine va_get (D := D) (ci := 4) (v := .ref ob) (C := RX4) (T := TX4) (N := 4) hx hb hts hinX4 hown hK hP 0 rfl rfl 0 (by decide) hw10 (fun _ h9 => h9) rfl dX4_findDearest_8 ?_
    refine va_get (D := D) (ci := 0) (v := .int (nI n)) (C := RX0) (T := TX0) (N := 2) hx hb hts hinX0 hown hK hP 15 rfl rfl 1 (by decide) hw242 (fun _ h9 => h9) rfl dX4_findDearest_11 ?_
    refine rd_icmp_ge_n (a := i) (b := n) (tgt := 63) (by omega) (by omega) hx hb dX4_findDearest_14 (by decide) (fun c_14 => ?_) (fun c_14 => ?_)
    · have c_14n := Nat.not_lt.mpr c_14
      refine lv_iload_n hx hb dX4_findDearest_63 rfl (lv_at hl 1 rfl) ?_
      exact wr_iret hx hb hr hlocks hP hS rfl dX4_findDearest_64 (by exact ⟨by have e9 := dear_same hn8 hbk n 0 (-1, 0) (by omega) (fun _ => rfl); unfold mDear; rw [← e9, inv6, gP_end c_14], rfl⟩)
    · have c_14n := Nat.not_le.mpr c_14
      refine lv_aload_n hx hb dX4_findDearest_17 rfl (lv_at hl 0 rfl) ?_
      refine va_get (D := D) (ci := 4) (v := .ref ob) (C := RX4) (T := TX4) (N := 4) hx hb hts hinX4 hown hK hP 0 rfl rfl 0 (by decide) hw10 (fun _ h9 => h9) rfl dX4_findDearest_18 ?_
      refine va_get (D := D) (ci := 0) (v := .ref oc) (C := RX0) (T := TX0) (N := 2) hx hb hts hinX0 hown hK hP 15 rfl rfl 0 (by decide) hw89 (fun _ h9 => h9) rfl dX4_findDearest_21 ?_
      refine lv_bipush (v := 32) hx hb dX4_findDearest_24 (by decide) ?_
      refine lv_iload_n hx hb dX4_findDearest_26 rfl (lv_at hl 3 rfl) ?_
      refine lv_iadd hx hb dX4_findDearest_27 ?_
      refine lv_asi (y := nI (32 + i)) (nI_add 32 i) ?_
      refine rd_ald (q0 := 16) (t0 := 0) (j := 32 + i) (v := P i 4) hx hb hK hP rfl rfl (rfl) (by omega) (by decide) (by rw [show 32 + i = 8 * 4 + i by omega]; exact hf i c_14 4 (by decide)) dX4_findDearest_28 ?_
      refine lv_aload_n hx hb dX4_findDearest_29 rfl (lv_at hl 0 rfl) ?_
      refine va_get (D := D) (ci := 4) (v := .ref op) (C := RX4) (T := TX4) (N := 4) hx hb hts hinX4 hown hK hP 0 rfl rfl 3 (by decide) hw33 (fun _ h9 => h9) rfl dX4_findDearest_30 ?_
      refine va_get (D := D) (ci := 2) (v := .ref xX) (C := RX2) (T := TX2) (N := 17) hx hb hts hinX2 hown hK hP 1 rfl rfl 16 (by decide) hw269 (fun _ h9 => h9) rfl dX4_findDearest_33 ?_
      refine lv_iload_n hx hb dX4_findDearest_36 rfl (lv_at hl 3 rfl) ?_
      refine rd_ald (q0 := 14) (t0 := 0) (j := i) (v := hvW n P (nI i)) hx hb hK hP rfl rfl (rfl) (by omega) (by decide) (hX i c_14) dX4_findDearest_37 ?_
      refine lv_iadd hx hb dX4_findDearest_38 ?_
      refine lv_istore (lv' := [(4, .int ((P i 4) + (hvW n P (nI i)))), (0, .ref ox), (1, .int fd), (2, .int gr), (3, .int (nI i))]) hx hb dX4_findDearest_39 hl (by decide) rfl (fun ls hl => ?_)
      refine lv_iload_n hx hb dX4_findDearest_41 rfl (lv_at hl 2 rfl) ?_
      refine lv_iconst (v := (-1)) hx hb dX4_findDearest_42 (by decide) ?_
      refine lv_icmp_eq (tgt := 52) hx hb dX4_findDearest_43 (by decide) (fun c_43 => ?_) (fun c_43 => ?_)
      · refine lv_iload_n hx hb dX4_findDearest_52 rfl (lv_at hl 4 rfl) ?_
        refine lv_istore_n (lv' := [(1, .int (nI i)), (4, .int ((P i 4) + (hvW n P (nI i)))), (0, .ref ox), (2, .int gr), (3, .int (nI i))]) hx hb dX4_findDearest_53 rfl hl (by decide) rfl (fun ls hl => ?_)
        refine lv_iload hx hb dX4_findDearest_54 (lv_at hl 1 rfl) ?_
        refine lv_istore_n (lv' := [(2, .int ((P i 4) + (hvW n P (nI i)))), (1, .int (nI i)), (4, .int ((P i 4) + (hvW n P (nI i)))), (0, .ref ox), (3, .int (nI i))]) hx hb dX4_findDearest_56 rfl hl (by decide) rfl (fun ls hl => ?_)
        refine lv_iinc (v := nI (i + 1)) (lv' := [(3, .int (nI (i + 1))), (2, .int ((P i 4) + (hvW n P (nI i)))), (1, .int (nI i)), (4, .int ((P i 4) + (hvW n P (nI i)))), (0, .ref ox)]) hx hb dX4_findDearest_57 hl (k := 4) rfl (nI_add i 1) (by decide) rfl (fun ls hl => ?_)
        refine lv_goto (tgt := 6) hx hb dX4_findDearest_60 (by decide) ?_
        exact ih6 (i + 1) (nI i) ((P i 4) + (hvW n P (nI i))) H locs ls (by omega) (by omega) (by rw [inv6, gP_step c_14]; simp [cDrF, c_14n, c_43]) hP hD hS (lv_sub hl [4, 2, 1, 0] rfl)
      · refine lv_iload hx hb dX4_findDearest_46 (lv_at hl 0 rfl) ?_
        refine lv_iload_n hx hb dX4_findDearest_48 rfl (lv_at hl 3 rfl) ?_
        refine lv_icmp_le (tgt := 57) hx hb dX4_findDearest_49 (by decide) (fun c_49 => ?_) (fun c_49 => ?_)
        · have c_49n := Int32.not_lt.mpr c_49
          refine lv_iinc (v := nI (i + 1)) (lv' := [(3, .int (nI (i + 1))), (4, .int ((P i 4) + (hvW n P (nI i)))), (0, .ref ox), (1, .int fd), (2, .int gr)]) hx hb dX4_findDearest_57 hl (k := 4) rfl (nI_add i 1) (by decide) rfl (fun ls hl => ?_)
          refine lv_goto (tgt := 6) hx hb dX4_findDearest_60 (by decide) ?_
          exact ih6 (i + 1) fd gr H locs ls (by omega) (by omega) (by rw [inv6, gP_step c_14]; simp [cDrF, c_14n, c_43, c_49, c_49n]) hP hD hS (lv_sub hl [2, 3, 4, 0] rfl)
        · have c_49n := Int32.not_le.mp c_49
          refine lv_iload_n hx hb dX4_findDearest_52 rfl (lv_at hl 4 rfl) ?_
          refine lv_istore_n (lv' := [(1, .int (nI i)), (4, .int ((P i 4) + (hvW n P (nI i)))), (0, .ref ox), (2, .int gr), (3, .int (nI i))]) hx hb dX4_findDearest_53 rfl hl (by decide) rfl (fun ls hl => ?_)
          refine lv_iload hx hb dX4_findDearest_54 (lv_at hl 1 rfl) ?_
          refine lv_istore_n (lv' := [(2, .int ((P i 4) + (hvW n P (nI i)))), (1, .int (nI i)), (4, .int ((P i 4) + (hvW n P (nI i)))), (0, .ref ox), (3, .int (nI i))]) hx hb dX4_findDearest_56 rfl hl (by decide) rfl (fun ls hl => ?_)
          refine lv_iinc (v := nI (i + 1)) (lv' := [(3, .int (nI (i + 1))), (2, .int ((P i 4) + (hvW n P (nI i)))), (1, .int (nI i)), (4, .int ((P i 4) + (hvW n P (nI i)))), (0, .ref ox)]) hx hb dX4_findDearest_57 hl (k := 4) rfl (nI_add i 1) (by decide) rfl (fun ls hl => ?_)
          refine lv_goto (tgt := 6) hx hb dX4_findDearest_60 (by decide) ?_
          exact ih6 (i + 1) (nI i) ((P i 4) + (hvW n P (nI i))) H locs ls (by omega) (by omega) (by rw [inv6, gP_step c_14]; simp [cDrF, c_14n, c_43, c_49, c_49n]) hP hD hS (lv_sub hl [4, 2, 1, 0] rfl)
set_option maxHeartbeats 4000000 in
set_option maxRecDepth 100000 in
theorem c_X4_insertTold (l : Launch) (D : va_G) {ox op xO xW xN xC xA xM xG xT xH xR xF xB xX ob oc oh hc hp ot yc yt : Nat} {cI : ClassId} {cZ : ClassId} {n q b : Nat} {P : Nat → Nat → Int32} {kn kS kF kT pa vl : Int32} {aO aW aN aC aA aM aG aT aH aR aF aB aX f zf zn co td : Nat → Int32} {r : Nat} (hr8 : r < 8) (hok : bdOK (n, P)) (hf : clB n P f) (htd : ∀ i, i ≤ r → tdOK td i) : wr_M l yX4_insertTold wsX4_insertTold ({ frames := 4, cells := 0, slots := 0, locals := 99 } : Room) D (ClW ox op xO xW xN xC xA xM xG xT xH xR xF xB xX ob oc oh hc hp ot yc yt cI cZ kn aO aW aN aC aA kS aM aG aT aH aR aF kF aB kT aX (nI n) f (nI q) zf zn co (nI b) td (nI r) pa vl) [(cI, .int), (cZ, .boolean)] [.ref ox] (fun v w9 => v = some (.int (nI (mIq td (r + 1) 0 n P).1)) ∧ ∃ f9 : Nat → Int32, clB (mIq td (r + 1) 0 n P).2.1 (mIq td (r + 1) 0 n P).2.2 f9 ∧ w9 = ClW ox op xO xW xN xC xA xM xG xT xH xR xF xB xX ob oc oh hc hp ot yc yt cI cZ kn aO aW aN aC aA kS aM aG aT aH aR aF kF aB kT aX (nI ((mIq td (r + 1) 0 n P).2.1)) f9 (nI q) zf zn co (nI b) td (nI r) pa vl) := by
  refine wr_of (cc := cX4_insertTold) (maxL := 5) (ret := some .int) (by decide) rfl (Nat.le_of_ble_eq_true rfl) ?_
  intro p e s m below meth c hx hb hr hml hts hown hlocks hP hK hN hZ hD hS ls hl
  have hown : s.vm.findClass RX4 = some m.cls := hown
  have hl : lv_has ls 5 [(0, .ref ox)] := hl
  have hinX4 : ∀ w ∈ u_ws RX4 TX4 4, w ∈ wsX4_insertTold := by decide +kernel
  have hw26 := hts (.fieldLink RX4 26 "CornerLabels" "typed" "LCornerLabels$Typed;") (by decide +kernel)
  have hw10 := hts (.fieldLink RX4 10 "CornerLabels" "board" "LCornerLabels$Board;") (by decide +kernel)
  suffices body : ∀ (H : Heap) (locs : List Loc), va_P D vwCl (ClW ox op xO xW xN xC xA xM xG xT xH xR xF xB xX ob oc oh hc hp ot yc yt cI cZ kn aO aW aN aC aA kS aM aG aT aH aR aF kF aB kT aX (nI n) f (nI q) zf zn co (nI b) td (nI r) pa vl) H → va_D (wr_in (ClW ox op xO xW xN xC xA xM xG xT xH xR xF xB xX ob oc oh hc hp ot yc yt cI cZ kn aO aW aN aC aA kS aM aG aT aH aR aF kF aB kT aX (nI n) f (nI q) zf zn co (nI b) td (nI r) pa vl)) (ClW ox op xO xW xN xC xA xM xG xT xH xR xF xB xX ob oc oh hc hp ot yc yt cI cZ kn aO aW aN aC aA kS aM aG aT aH aR aF kF aB kT aX (nI n) f (nI q) zf zn co (nI b) td (nI r) pa vl) → va_S (wr_in (ClW ox op xO xW xN xC xA xM xG xT xH xR xF xB xX ob oc oh hc hp ot yc yt cI cZ kn aO aW aN aC aA kS aM aG aT aH aR aF kF aB kT aX (nI n) f (nI q) zf zn co (nI b) td (nI r) pa vl)) s.heap H locs → wr_W p l e wsX4_insertTold ({ frames := 4, cells := 0, slots := 0, locals := 99 } : Room) s m [.ref ox] below meth c D (ClW ox op xO xW xN xC xA xM xG xT xH xR xF xB xX ob oc oh hc hp ot yc yt cI cZ kn aO aW aN aC aA kS aM aG aT aH aR aF kF aB kT aX (nI n) f (nI q) zf zn co (nI b) td (nI r) pa vl) (fun v w9 => v = some (.int (nI (mIq td (r + 1) 0 n P).1)) ∧ ∃ f9 : Nat → Int32, clB (mIq td (r + 1) 0 n P).2.1 (mIq td (r + 1) 0 n P).2.2 f9 ∧ w9 = ClW ox op xO xW xN xC xA xM xG xT xH xR xF xB xX ob oc oh hc hp ot yc yt cI cZ kn aO aW aN aC aA kS aM aG aT aH aR aF kF aB kT aX (nI ((mIq td (r + 1) 0 n P).2.1)) f9 (nI q) zf zn co (nI b) td (nI r) pa vl) H locs (F0 m 0 ls []) from body _ _ hP hD hS
  clear hP hD hS
  intro H locs hP hD hS
  refine lv_iconst (v := 0) hx hb dX4_insertTold_0 (by decide) ?_
  refine lv_istore_n (lv' := [(1, .int 0), (0, .ref ox)]) hx hb dX4_insertTold_1 rfl hl (by decide) rfl (fun ls hl => ?_)
  refine lv_iconst (v := 0) hx hb dX4_insertTold_2 (by decide) ?_
  refine lv_istore_n (lv' := [(2, .int 0), (1, .int 0), (0, .ref ox)]) hx hb dX4_insertTold_3 rfl hl (by decide) rfl (fun ls hl => ?_)
  suffices loop4 : ∀ (k4 i : Nat) (ad : Int32) (n1 : Nat) (f1 : Nat → Int32) (H : Heap) (locs : List Loc) (ls : Array Slot), i ≤ r + 1 → r + 1 + 1 ≤ i + k4 → (ad = nI i ∧ ∃ P1 : Nat → Nat → Int32, bdOK (n1, P1) ∧ clB n1 P1 f1 ∧ mIq td (r + 1) 0 n P = mIq td (r + 1) i n1 P1) → va_P D vwCl (ClW ox op xO xW xN xC xA xM xG xT xH xR xF xB xX ob oc oh hc hp ot yc yt cI cZ kn aO aW aN aC aA kS aM aG aT aH aR aF kF aB kT aX (nI n1) f1 (nI q) zf zn co (nI b) td (nI r) pa vl) H → va_D (wr_in (ClW ox op xO xW xN xC xA xM xG xT xH xR xF xB xX ob oc oh hc hp ot yc yt cI cZ kn aO aW aN aC aA kS aM aG aT aH aR aF kF aB kT aX (nI n) f (nI q) zf zn co (nI b) td (nI r) pa vl)) (ClW ox op xO xW xN xC xA xM xG xT xH xR xF xB xX ob oc oh hc hp ot yc yt cI cZ kn aO aW aN aC aA kS aM aG aT aH aR aF kF aB kT aX (nI n1) f1 (nI q) zf zn co (nI b) td (nI r) pa vl) → va_S (wr_in (ClW ox op xO xW xN xC xA xM xG xT xH xR xF xB xX ob oc oh hc hp ot yc yt cI cZ kn aO aW aN aC aA kS aM aG aT aH aR aF kF aB kT aX (nI n) f (nI q) zf zn co (nI b) td (nI r) pa vl)) s.heap H locs → lv_has ls 5 [(0, .ref ox), (1, .int ad), (2, .int (nI i))] → wr_W p l e wsX4_insertTold ({ frames := 4, cells := 0, slots := 0, locals := 99 } : Room) s m [.ref ox] below meth c D (ClW ox op xO xW xN xC xA xM xG xT xH xR xF xB xX ob oc oh hc hp ot yc yt cI cZ kn aO aW aN aC aA kS aM aG aT aH aR aF kF aB kT aX (nI n) f (nI q) zf zn co (nI b) td (nI r) pa vl) (fun v w9 => v = some (.int (nI (mIq td (r + 1) 0 n P).1)) ∧ ∃ f9 : Nat → Int32, clB (mIq td (r + 1) 0 n P).2.1 (mIq td (r + 1) 0 n P).2.2 f9 ∧ w9 = ClW ox op xO xW xN xC xA xM xG xT xH xR xF xB xX ob oc oh hc hp ot yc yt cI cZ kn aO aW aN aC aA kS aM aG aT aH aR aF kF aB kT aX (nI ((mIq td (r + 1) 0 n P).2.1)) f9 (nI q) zf zn co (nI b) td (nI r) pa vl) H locs (F0 m 4 ls []) from
    loop4 (r + 1 + 1) 0 0 n f H locs ls (by omega) (by omega) (by exact ⟨rfl, P, hok, hf, rfl⟩) hP hD hS (lv_sub hl [2, 1, 0] rfl)
  intro k4
  induction k4 with
  | zero => intro i ad n1 f1 H locs ls h1 h2; exact absurd h2 (by omega)
  | succ k4 ih4 =>
    intro i ad n1 f1 H locs ls hle4 hlt4 inv4 hP hD hS hl
    obtain ⟨ead, P1, hok1, hf1, eit⟩ := inv4
    refine lv_iload_n hx hb dX4_insertTold_4 rfl (lv_at hl 2 rfl) ?_
    refine lv_aload_n hx hb dX4_insertTold_5 rfl (lv_at hl 0 rfl) ?_
    refine va_get (D := D) (ci := 4) (v := .ref ot) (C := RX4) (T := TX4) (N := 4) hx hb hts hinX4 hown hK hP 0 rfl rfl 2 (by decide) hw26 (fun _ h9 => h9) rfl dX4_insertTold_6 ?_
    refine wr_callV (As := []) (rest := [.int (nI i)]) ⟨hx, hb, hml, hown, hts⟩ (c_X3_pointsTold l D) (cwV 0 hts gX4_insertTold_X3_pointsTold rfl rfl rfl (by decide +kernel) ⟨by decide, by decide⟩) hK hN hZ hP hD hS [20, 21, 22] [0] rfl (by decide) rfl (q0 := 20) rfl rfl rfl hl.1 rfl (Nat.le_of_ble_eq_true rfl) ⟨by decide, by decide⟩ dX4_insertTold_9 (fun v9 w9 H locs hp9 hP hD hS => ?_)
    obtain ⟨rfl, rfl⟩ := hp9
    have hP : va_P D vwCl (ClW ox op xO xW xN xC xA xM xG xT xH xR xF xB xX ob oc oh hc hp ot yc yt cI cZ kn aO aW aN aC aA kS aM aG aT aH aR aF kF aB kT aX (nI n1) f1 (nI q) zf zn co (nI b) td (nI r) pa vl) H := hP
    have hD : va_D (wr_in (ClW ox op xO xW xN xC xA xM xG xT xH xR xF xB xX ob oc oh hc hp ot yc yt cI cZ kn aO aW aN aC aA kS aM aG aT aH aR aF kF aB kT aX (nI n) f (nI q) zf zn co (nI b) td (nI r) pa vl)) (ClW ox op xO xW xN xC xA xM xG xT xH xR xF xB xX ob oc oh hc hp ot yc yt cI cZ kn aO aW aN aC aA kS aM aG aT aH aR aF kF aB kT aX (nI n1) f1 (nI q) zf zn co (nI b) td (nI r) pa vl) := hD
    refine W.eq (g2 := F0 m 12 ls [.int (nI (r + 1)), .int (nI i)]) rfl ?_
    refine rd_icmp_ge_n (a := i) (b := r + 1) (tgt := 99) (by omega) (by omega) hx hb dX4_insertTold_12 (by decide) (fun c_12 => ?_) (fun c_12 => ?_)
    · have c_12n := Nat.not_lt.mpr c_12
      refine lv_iload_n hx hb dX4_insertTold_99 rfl (lv_at hl 1 rfl) ?_
      exact wr_iret hx hb hr hlocks hP hS rfl dX4_insertTold_100 (by have hz : mIq td (r + 1) 0 n P = (i, n1, P1) := (eit.trans (mIq_end c_12)); exact ⟨by rw [hz, ead], f1, by rw [hz]; exact hf1, by rw [hz]⟩)
    · have c_12n := Nat.not_le.mpr c_12
      refine lv_aload_n hx hb dX4_insertTold_15 rfl (lv_at hl 0 rfl) ?_
      refine va_get (D := D) (ci := 4) (v := .ref ot) (C := RX4) (T := TX4) (N := 4) hx hb hts hinX4 hown hK hP 0 rfl rfl 2 (by decide) hw26 (fun _ h9 => h9) rfl dX4_insertTold_16 ?_
      refine lv_iload_n hx hb dX4_insertTold_19 rfl (lv_at hl 2 rfl) ?_
      refine lv_iconst (v := 0) hx hb dX4_insertTold_20 (by decide) ?_
      refine wr_callV (As := [.int (nI i), .int 0]) (rest := []) ⟨hx, hb, hml, hown, hts⟩ (c_X3_part (i := i) (k := 0) l D (by omega) (by decide)) (cwV 2 hts gX4_insertTold_X3_part rfl rfl rfl (by decide +kernel) ⟨by decide, by decide⟩) hK hN hZ hP hD hS [20, 21, 22] [0] rfl (by decide) rfl (q0 := 20) rfl rfl rfl hl.1 rfl (Nat.le_of_ble_eq_true rfl) ⟨by decide, by decide⟩ dX4_insertTold_21 (fun v9 w9 H locs hp9 hP hD hS => ?_)
      obtain ⟨rfl, rfl⟩ := hp9
      have hP : va_P D vwCl (ClW ox op xO xW xN xC xA xM xG xT xH xR xF xB xX ob oc oh hc hp ot yc yt cI cZ kn aO aW aN aC aA kS aM aG aT aH aR aF kF aB kT aX (nI n1) f1 (nI q) zf zn co (nI b) td (nI r) pa vl) H := hP
      have hD : va_D (wr_in (ClW ox op xO xW xN xC xA xM xG xT xH xR xF xB xX ob oc oh hc hp ot yc yt cI cZ kn aO aW aN aC aA kS aM aG aT aH aR aF kF aB kT aX (nI n) f (nI q) zf zn co (nI b) td (nI r) pa vl)) (ClW ox op xO xW xN xC xA xM xG xT xH xR xF xB xX ob oc oh hc hp ot yc yt cI cZ kn aO aW aN aC aA kS aM aG aT aH aR aF kF aB kT aX (nI n1) f1 (nI q) zf zn co (nI b) td (nI r) pa vl) := hD
      refine W.eq (g2 := F0 m 24 ls [.int (td (5 * i))]) rfl ?_
      refine lv_istore_n (lv' := [(3, .int (td (5 * i))), (0, .ref ox), (1, .int ad), (2, .int (nI i))]) hx hb dX4_insertTold_24 rfl hl (by decide) rfl (fun ls hl => ?_)
      refine lv_aload_n hx hb dX4_insertTold_25 rfl (lv_at hl 1 rfl) ?_
      refine va_get (D := D) (ci := 4) (v := .ref ot) (C := RX4) (T := TX4) (N := 4) hx hb hts hinX4 hown hK hP 0 rfl rfl 2 (by decide) hw26 (fun _ h9 => h9) rfl dX4_insertTold_26 ?_
      refine lv_iload_n hx hb dX4_insertTold_29 rfl (lv_at hl 3 rfl) ?_
      refine lv_iconst (v := 1) hx hb dX4_insertTold_30 (by decide) ?_
      refine wr_callV (As := [.int (nI i), .int 1]) (rest := []) ⟨hx, hb, hml, hown, hts⟩ (c_X3_part (i := i) (k := 1) l D (by omega) (by decide)) (cwV 2 hts gX4_insertTold_X3_part rfl rfl rfl (by decide +kernel) ⟨by decide, by decide⟩) hK hN hZ hP hD hS [20, 21, 22] [0] rfl (by decide) rfl (q0 := 20) rfl rfl rfl hl.1 rfl (Nat.le_of_ble_eq_true rfl) ⟨by decide, by decide⟩ dX4_insertTold_31 (fun v9 w9 H locs hp9 hP hD hS => ?_)
      obtain ⟨rfl, rfl⟩ := hp9
      have hP : va_P D vwCl (ClW ox op xO xW xN xC xA xM xG xT xH xR xF xB xX ob oc oh hc hp ot yc yt cI cZ kn aO aW aN aC aA kS aM aG aT aH aR aF kF aB kT aX (nI n1) f1 (nI q) zf zn co (nI b) td (nI r) pa vl) H := hP
      have hD : va_D (wr_in (ClW ox op xO xW xN xC xA xM xG xT xH xR xF xB xX ob oc oh hc hp ot yc yt cI cZ kn aO aW aN aC aA kS aM aG aT aH aR aF kF aB kT aX (nI n) f (nI q) zf zn co (nI b) td (nI r) pa vl)) (ClW ox op xO xW xN xC xA xM xG xT xH xR xF xB xX ob oc oh hc hp ot yc yt cI cZ kn aO aW aN aC aA kS aM aG aT aH aR aF kF aB kT aX (nI n1) f1 (nI q) zf zn co (nI b) td (nI r) pa vl) := hD
      refine W.eq (g2 := F0 m 34 ls [.int (td (5 * i + 1))]) rfl ?_
      refine lv_istore (lv' := [(4, .int (td (5 * i + 1))), (3, .int (td (5 * i))), (0, .ref ox), (1, .int ad), (2, .int (nI i))]) hx hb dX4_insertTold_34 hl (by decide) rfl (fun ls hl => ?_)
      refine lv_aload_n hx hb dX4_insertTold_36 rfl (lv_at hl 2 rfl) ?_
      refine va_get (D := D) (ci := 4) (v := .ref ob) (C := RX4) (T := TX4) (N := 4) hx hb hts hinX4 hown hK hP 0 rfl rfl 0 (by decide) hw10 (fun _ h9 => h9) rfl dX4_insertTold_37 ?_
      refine lv_iload_n hx hb dX4_insertTold_40 rfl (lv_at hl 1 rfl) ?_
      refine lv_iload hx hb dX4_insertTold_41 (lv_at hl 0 rfl) ?_
      have hbd : bd_in (ClW ox op xO xW xN xC xA xM xG xT xH xR xF xB xX ob oc oh hc hp ot yc yt cI cZ kn aO aW aN aC aA kS aM aG aT aH aR aF kF aB kT aX (nI n1) f1 (nI q) zf zn co (nI b) td (nI r) pa vl) [(cI, .int), (cZ, .boolean)] ob n1 P1 := ⟨15, 16, 0, oc, cI, f1, rfl, rfl, rfl, hok1.1, hf1⟩
      refine rd_callV (As := [.int (td (5 * i)), .int (td (5 * i + 1))]) (rest := []) ⟨hx, hb, hml, hown, hts⟩ (c_X0_takesPointOn l D hbd (td (5 * i)) (td (5 * i + 1))) (cwV 2 hts gX4_insertTold_X0_takesPointOn rfl rfl rfl (by decide +kernel) ⟨by decide, by decide⟩) hK hN hP (q0 := 15) rfl rfl rfl hl.1 rfl (Nat.le_of_ble_eq_true rfl) ⟨by decide, by decide⟩ dX4_insertTold_43 ?_
      refine rd_ifne_b (tgt := 52) hx hb dX4_insertTold_46 (by decide) (fun c_46 => ?_) (fun c_46 => ?_)
      · refine lv_aload_n hx hb dX4_insertTold_52 rfl (lv_at hl 2 rfl) ?_
        refine va_get (D := D) (ci := 4) (v := .ref ob) (C := RX4) (T := TX4) (N := 4) hx hb hts hinX4 hown hK hP 0 rfl rfl 0 (by decide) hw10 (fun _ h9 => h9) rfl dX4_insertTold_53 ?_
        refine lv_iload_n hx hb dX4_insertTold_56 rfl (lv_at hl 1 rfl) ?_
        refine lv_iload hx hb dX4_insertTold_57 (lv_at hl 0 rfl) ?_
        refine lv_aload_n hx hb dX4_insertTold_59 rfl (lv_at hl 2 rfl) ?_
        refine va_get (D := D) (ci := 4) (v := .ref ot) (C := RX4) (T := TX4) (N := 4) hx hb hts hinX4 hown hK hP 0 rfl rfl 2 (by decide) hw26 (fun _ h9 => h9) rfl dX4_insertTold_60 ?_
        refine lv_iload_n hx hb dX4_insertTold_63 rfl (lv_at hl 4 rfl) ?_
        refine lv_iconst (v := 2) hx hb dX4_insertTold_64 (by decide) ?_
        refine wr_callV (As := [.int (nI i), .int 2]) (rest := [.int (td (5 * i + 1)), .int (td (5 * i)), .ref ob]) ⟨hx, hb, hml, hown, hts⟩ (c_X3_part (i := i) (k := 2) l D (by omega) (by decide)) (cwV 2 hts gX4_insertTold_X3_part rfl rfl rfl (by decide +kernel) ⟨by decide, by decide⟩) hK hN hZ hP hD hS [20, 21, 22] [0] rfl (by decide) rfl (q0 := 20) rfl rfl rfl hl.1 rfl (Nat.le_of_ble_eq_true rfl) ⟨by decide, by decide⟩ dX4_insertTold_65 (fun v9 w9 H locs hp9 hP hD hS => ?_)
        obtain ⟨rfl, rfl⟩ := hp9
        have hP : va_P D vwCl (ClW ox op xO xW xN xC xA xM xG xT xH xR xF xB xX ob oc oh hc hp ot yc yt cI cZ kn aO aW aN aC aA kS aM aG aT aH aR aF kF aB kT aX (nI n1) f1 (nI q) zf zn co (nI b) td (nI r) pa vl) H := hP
        have hD : va_D (wr_in (ClW ox op xO xW xN xC xA xM xG xT xH xR xF xB xX ob oc oh hc hp ot yc yt cI cZ kn aO aW aN aC aA kS aM aG aT aH aR aF kF aB kT aX (nI n) f (nI q) zf zn co (nI b) td (nI r) pa vl)) (ClW ox op xO xW xN xC xA xM xG xT xH xR xF xB xX ob oc oh hc hp ot yc yt cI cZ kn aO aW aN aC aA kS aM aG aT aH aR aF kF aB kT aX (nI n1) f1 (nI q) zf zn co (nI b) td (nI r) pa vl) := hD
        refine W.eq (g2 := F0 m 68 ls [.int (td (5 * i + 2)), .int (td (5 * i + 1)), .int (td (5 * i)), .ref ob]) rfl ?_
        refine lv_aload_n hx hb dX4_insertTold_68 rfl (lv_at hl 2 rfl) ?_
        refine va_get (D := D) (ci := 4) (v := .ref ot) (C := RX4) (T := TX4) (N := 4) hx hb hts hinX4 hown hK hP 0 rfl rfl 2 (by decide) hw26 (fun _ h9 => h9) rfl dX4_insertTold_69 ?_
        refine lv_iload_n hx hb dX4_insertTold_72 rfl (lv_at hl 4 rfl) ?_
        refine lv_iconst (v := 3) hx hb dX4_insertTold_73 (by decide) ?_
        refine wr_callV (As := [.int (nI i), .int 3]) (rest := [.int (td (5 * i + 2)), .int (td (5 * i + 1)), .int (td (5 * i)), .ref ob]) ⟨hx, hb, hml, hown, hts⟩ (c_X3_part (i := i) (k := 3) l D (by omega) (by decide)) (cwV 2 hts gX4_insertTold_X3_part rfl rfl rfl (by decide +kernel) ⟨by decide, by decide⟩) hK hN hZ hP hD hS [20, 21, 22] [0] rfl (by decide) rfl (q0 := 20) rfl rfl rfl hl.1 rfl (Nat.le_of_ble_eq_true rfl) ⟨by decide, by decide⟩ dX4_insertTold_74 (fun v9 w9 H locs hp9 hP hD hS => ?_)
        obtain ⟨rfl, rfl⟩ := hp9
        have hP : va_P D vwCl (ClW ox op xO xW xN xC xA xM xG xT xH xR xF xB xX ob oc oh hc hp ot yc yt cI cZ kn aO aW aN aC aA kS aM aG aT aH aR aF kF aB kT aX (nI n1) f1 (nI q) zf zn co (nI b) td (nI r) pa vl) H := hP
        have hD : va_D (wr_in (ClW ox op xO xW xN xC xA xM xG xT xH xR xF xB xX ob oc oh hc hp ot yc yt cI cZ kn aO aW aN aC aA kS aM aG aT aH aR aF kF aB kT aX (nI n) f (nI q) zf zn co (nI b) td (nI r) pa vl)) (ClW ox op xO xW xN xC xA xM xG xT xH xR xF xB xX ob oc oh hc hp ot yc yt cI cZ kn aO aW aN aC aA kS aM aG aT aH aR aF kF aB kT aX (nI n1) f1 (nI q) zf zn co (nI b) td (nI r) pa vl) := hD
        refine W.eq (g2 := F0 m 77 ls [.int (td (5 * i + 3)), .int (td (5 * i + 2)), .int (td (5 * i + 1)), .int (td (5 * i)), .ref ob]) rfl ?_
        refine lv_aload_n hx hb dX4_insertTold_77 rfl (lv_at hl 2 rfl) ?_
        refine va_get (D := D) (ci := 4) (v := .ref ot) (C := RX4) (T := TX4) (N := 4) hx hb hts hinX4 hown hK hP 0 rfl rfl 2 (by decide) hw26 (fun _ h9 => h9) rfl dX4_insertTold_78 ?_
        refine lv_iload_n hx hb dX4_insertTold_81 rfl (lv_at hl 4 rfl) ?_
        refine lv_iconst (v := 4) hx hb dX4_insertTold_82 (by decide) ?_
        refine wr_callV (As := [.int (nI i), .int 4]) (rest := [.int (td (5 * i + 3)), .int (td (5 * i + 2)), .int (td (5 * i + 1)), .int (td (5 * i)), .ref ob]) ⟨hx, hb, hml, hown, hts⟩ (c_X3_part (i := i) (k := 4) l D (by omega) (by decide)) (cwV 2 hts gX4_insertTold_X3_part rfl rfl rfl (by decide +kernel) ⟨by decide, by decide⟩) hK hN hZ hP hD hS [20, 21, 22] [0] rfl (by decide) rfl (q0 := 20) rfl rfl rfl hl.1 rfl (Nat.le_of_ble_eq_true rfl) ⟨by decide, by decide⟩ dX4_insertTold_83 (fun v9 w9 H locs hp9 hP hD hS => ?_)
        obtain ⟨rfl, rfl⟩ := hp9
        have hP : va_P D vwCl (ClW ox op xO xW xN xC xA xM xG xT xH xR xF xB xX ob oc oh hc hp ot yc yt cI cZ kn aO aW aN aC aA kS aM aG aT aH aR aF kF aB kT aX (nI n1) f1 (nI q) zf zn co (nI b) td (nI r) pa vl) H := hP
        have hD : va_D (wr_in (ClW ox op xO xW xN xC xA xM xG xT xH xR xF xB xX ob oc oh hc hp ot yc yt cI cZ kn aO aW aN aC aA kS aM aG aT aH aR aF kF aB kT aX (nI n) f (nI q) zf zn co (nI b) td (nI r) pa vl)) (ClW ox op xO xW xN xC xA xM xG xT xH xR xF xB xX ob oc oh hc hp ot yc yt cI cZ kn aO aW aN aC aA kS aM aG aT aH aR aF kF aB kT aX (nI n1) f1 (nI q) zf zn co (nI b) td (nI r) pa vl) := hD
        refine W.eq (g2 := F0 m 86 ls [.int (td (5 * i + 4)), .int (td (5 * i + 3)), .int (td (5 * i + 2)), .int (td (5 * i + 1)), .int (td (5 * i)), .ref ob]) rfl ?_
        refine wr_callV (As := [.int (td (5 * i)), .int (td (5 * i + 1)), .int (td (5 * i + 2)), .int (td (5 * i + 3)), .int (td (5 * i + 4))]) (rest := []) ⟨hx, hb, hml, hown, hts⟩ (c_X0_insert l D (by have h9 := c_46; unfold gTk at h9; rw [Bool.and_eq_true, decide_eq_true_iff] at h9; exact h9.1) hf1 (td (5 * i)) (td (5 * i + 1)) (td (5 * i + 2)) (td (5 * i + 3)) (td (5 * i + 4))) (cwV 5 hts gX4_insertTold_X0_insert rfl rfl rfl (by decide +kernel) ⟨by decide, by decide⟩) hK hN hZ hP hD hS [15, 16] [0] rfl (by decide) rfl (q0 := 15) rfl rfl rfl hl.1 rfl (Nat.le_of_ble_eq_true rfl) ⟨by decide, by decide⟩ dX4_insertTold_86 (fun v9 w9 H locs hp9 hP hD hS => ?_)
        obtain hp9 := hp9
        obtain ⟨rfl, f9, rfl, hf9⟩ := hp9
        have hf10 : clB (n1 + 1) (mIns n1 P1 (td (5 * i)) (td (5 * i + 1)) (td (5 * i + 2)) (td (5 * i + 3)) (td (5 * i + 4))) f9 := clB_ext hf9 (gIns_mIns hok1.2.1 hok1.2.2 hok1.1 (td (5 * i)) (td (5 * i + 1)) (td (5 * i + 2)) (td (5 * i + 3)) (td (5 * i + 4)))
        have hP : va_P D vwCl (ClW ox op xO xW xN xC xA xM xG xT xH xR xF xB xX ob oc oh hc hp ot yc yt cI cZ kn aO aW aN aC aA kS aM aG aT aH aR aF kF aB kT aX (nI (n1 + 1)) f9 (nI q) zf zn co (nI b) td (nI r) pa vl) H := hP
        have hD : va_D (wr_in (ClW ox op xO xW xN xC xA xM xG xT xH xR xF xB xX ob oc oh hc hp ot yc yt cI cZ kn aO aW aN aC aA kS aM aG aT aH aR aF kF aB kT aX (nI n) f (nI q) zf zn co (nI b) td (nI r) pa vl)) (ClW ox op xO xW xN xC xA xM xG xT xH xR xF xB xX ob oc oh hc hp ot yc yt cI cZ kn aO aW aN aC aA kS aM aG aT aH aR aF kF aB kT aX (nI (n1 + 1)) f9 (nI q) zf zn co (nI b) td (nI r) pa vl) := hD
        refine W.eq (g2 := F0 m 89 ls [.int (nI n1)]) rfl ?_
        refine lv_pop hx hb dX4_insertTold_89 rfl ?_
        refine lv_iinc (v := ad + 1) (lv' := [(1, .int (ad + 1)), (4, .int (td (5 * i + 1))), (3, .int (td (5 * i))), (0, .ref ox), (2, .int (nI i))]) hx hb dX4_insertTold_90 hl (k := 3) rfl (rfl) (by decide) rfl (fun ls hl => ?_)
        refine lv_iinc (v := nI (i + 1)) (lv' := [(2, .int (nI (i + 1))), (1, .int (ad + 1)), (4, .int (td (5 * i + 1))), (3, .int (td (5 * i))), (0, .ref ox)]) hx hb dX4_insertTold_93 hl (k := 4) rfl (nI_add i 1) (by decide) rfl (fun ls hl => ?_)
        refine lv_goto (tgt := 4) hx hb dX4_insertTold_96 (by decide) ?_
        exact ih4 (i + 1) (ad + 1) (n1 + 1) f9 H locs ls (by omega) (by omega) (by have hm : mRef n1 P1 (td (5 * i)) (td (5 * i + 1)) (td (5 * i + 2)) (td (5 * i + 3)) (td (5 * i + 4)) = 0 := (by rw [told_ref hok1.1 (htd i (by omega)), c_46]; rfl); exact ⟨by rw [ead, nI_1], _, bdOK_ins hok1 hm, hf10, eit.trans (mIq_go c_12 hm)⟩) hP hD hS (lv_sub hl [4, 1, 0] rfl)
      · refine lv_goto (tgt := 99) hx hb dX4_insertTold_49 (by decide) ?_
        refine lv_iload_n hx hb dX4_insertTold_99 rfl (lv_at hl 3 rfl) ?_
        exact wr_iret hx hb hr hlocks hP hS rfl dX4_insertTold_100 (by have hz : mIq td (r + 1) 0 n P = (i, n1, P1) := (eit.trans (mIq_no c_12 (by rw [told_ref hok1.1 (htd i (by omega)), c_46]; decide))); exact ⟨by rw [hz, ead], f1, by rw [hz]; exact hf1, by rw [hz]⟩)
set_option maxHeartbeats 4000000 in
set_option maxRecDepth 100000 in
theorem c_X4_standingShare (l : Launch) (D : va_G) {ox op xO xW xN xC xA xM xG xT xH xR xF xB xX ob oc oh hc hp ot yc yt : Nat} {cI : ClassId} {cZ : ClassId} {n q b : Nat} {P : Nat → Nat → Int32} {kn kS kF kT rg pa vl : Int32} {aO aW aN aC aA aM aG aT aH aR aF aB aX f zf zn co td : Nat → Int32} (hn8 : n ≤ 8) (hbk : bd_ok n P) (hf : clB n P f) : wr_M l yX4_standingShare wsX4_standingShare ({ frames := 2, cells := 0, slots := 0, locals := 43 } : Room) D (ClW ox op xO xW xN xC xA xM xG xT xH xR xF xB xX ob oc oh hc hp ot yc yt cI cZ kn aO aW aN aC aA kS aM aG aT aH aR aF kF aB kT aX (nI n) f (nI q) zf zn co (nI b) td rg pa vl) [(cI, .int), (cZ, .boolean)] [.ref ox] (fun v w9 => v = some (.double (gShare n P)) ∧ w9 = ClW ox op xO xW xN xC xA xM xG xT xH xR xF xB xX ob oc oh hc hp ot yc yt cI cZ kn aO aW aN aC aA kS aM aG aT aH aR aF kF aB kT aX (nI n) f (nI q) zf zn co (nI b) td rg pa vl) := by
  refine wr_of (cc := cX4_standingShare) (maxL := 2) (ret := some .double) (by decide) rfl (Nat.le_of_ble_eq_true rfl) ?_
  intro p e s m below meth c hx hb hr hml hts hown hlocks hP hK hN hZ hD hS ls hl
  have hown : s.vm.findClass RX4 = some m.cls := hown
  have hl : lv_has ls 2 [(0, .ref ox)] := hl
  have hinX4 : ∀ w ∈ u_ws RX4 TX4 4, w ∈ wsX4_standingShare := by decide +kernel
  have hw10 := hts (.fieldLink RX4 10 "CornerLabels" "board" "LCornerLabels$Board;") (by decide +kernel)
  suffices body : ∀ (H : Heap) (locs : List Loc), va_P D vwCl (ClW ox op xO xW xN xC xA xM xG xT xH xR xF xB xX ob oc oh hc hp ot yc yt cI cZ kn aO aW aN aC aA kS aM aG aT aH aR aF kF aB kT aX (nI n) f (nI q) zf zn co (nI b) td rg pa vl) H → va_D (wr_in (ClW ox op xO xW xN xC xA xM xG xT xH xR xF xB xX ob oc oh hc hp ot yc yt cI cZ kn aO aW aN aC aA kS aM aG aT aH aR aF kF aB kT aX (nI n) f (nI q) zf zn co (nI b) td rg pa vl)) (ClW ox op xO xW xN xC xA xM xG xT xH xR xF xB xX ob oc oh hc hp ot yc yt cI cZ kn aO aW aN aC aA kS aM aG aT aH aR aF kF aB kT aX (nI n) f (nI q) zf zn co (nI b) td rg pa vl) → va_S (wr_in (ClW ox op xO xW xN xC xA xM xG xT xH xR xF xB xX ob oc oh hc hp ot yc yt cI cZ kn aO aW aN aC aA kS aM aG aT aH aR aF kF aB kT aX (nI n) f (nI q) zf zn co (nI b) td rg pa vl)) s.heap H locs → wr_W p l e wsX4_standingShare ({ frames := 2, cells := 0, slots := 0, locals := 43 } : Room) s m [.ref ox] below meth c D (ClW ox op xO xW xN xC xA xM xG xT xH xR xF xB xX ob oc oh hc hp ot yc yt cI cZ kn aO aW aN aC aA kS aM aG aT aH aR aF kF aB kT aX (nI n) f (nI q) zf zn co (nI b) td rg pa vl) (fun v w9 => v = some (.double (gShare n P)) ∧ w9 = ClW ox op xO xW xN xC xA xM xG xT xH xR xF xB xX ob oc oh hc hp ot yc yt cI cZ kn aO aW aN aC aA kS aM aG aT aH aR aF kF aB kT aX (nI n) f (nI q) zf zn co (nI b) td rg pa vl) H locs (F0 m 0 ls []) from body _ _ hP hD hS
  clear hP hD hS
  intro H locs hP hD hS
  refine lv_aload_n hx hb dX4_standingShare_0 rfl (lv_at hl 0 rfl) ?_
  refine va_get (D := D) (ci := 4) (v := .ref ob) (C := RX4) (T := TX4) (N := 4) hx hb hts hinX4 hown hK hP 0 rfl rfl 0 (by decide) hw10 (fun _ h9 => h9) rfl dX4_standingShare_1 ?_
  have hbd : bd_in (ClW ox op xO xW xN xC xA xM xG xT xH xR xF xB xX ob oc oh hc hp ot yc yt cI cZ kn aO aW aN aC aA kS aM aG aT aH aR aF kF aB kT aX (nI n) f (nI q) zf zn co (nI b) td rg pa vl) [(cI, .int), (cZ, .boolean)] ob n P := ⟨15, 16, 0, oc, cI, f, rfl, rfl, rfl, hn8, hf⟩
  refine rd_callV (As := []) (rest := []) ⟨hx, hb, hml, hown, hts⟩ (c_X0_allWeight l D hbd) (cwV 0 hts gX4_standingShare_X0_allWeight rfl rfl rfl (by decide +kernel) ⟨by decide, by decide⟩) hK hN hP (q0 := 15) rfl rfl rfl hl.1 rfl (Nat.le_of_ble_eq_true rfl) ⟨by decide, by decide⟩ dX4_standingShare_4 ?_
  refine lv_istore_n (lv' := [(1, .int (gAW n P)), (0, .ref ox)]) hx hb dX4_standingShare_7 rfl hl (by decide) rfl (fun ls hl => ?_)
  refine lv_iload_n hx hb dX4_standingShare_8 rfl (lv_at hl 0 rfl) ?_
  refine lv_if_ne (tgt := 16) hx hb dX4_standingShare_9 (by decide) (fun c_9 => ?_) (fun c_9 => ?_)
  · refine lv_aload_n hx hb dX4_standingShare_16 rfl (lv_at hl 1 rfl) ?_
    refine va_get (D := D) (ci := 4) (v := .ref ob) (C := RX4) (T := TX4) (N := 4) hx hb hts hinX4 hown hK hP 0 rfl rfl 0 (by decide) hw10 (fun _ h9 => h9) rfl dX4_standingShare_17 ?_
    have hbd : bd_in (ClW ox op xO xW xN xC xA xM xG xT xH xR xF xB xX ob oc oh hc hp ot yc yt cI cZ kn aO aW aN aC aA kS aM aG aT aH aR aF kF aB kT aX (nI n) f (nI q) zf zn co (nI b) td rg pa vl) [(cI, .int), (cZ, .boolean)] ob n P := ⟨15, 16, 0, oc, cI, f, rfl, rfl, rfl, hn8, hf⟩
    refine rd_callV (As := []) (rest := []) ⟨hx, hb, hml, hown, hts⟩ (c_X0_standingWeight l D hbd) (cwV 0 hts gX4_standingShare_X0_standingWeight rfl rfl rfl (by decide +kernel) ⟨by decide, by decide⟩) hK hN hP (q0 := 15) rfl rfl rfl hl.1 rfl (Nat.le_of_ble_eq_true rfl) ⟨by decide, by decide⟩ dX4_standingShare_20 ?_
    refine lv_i2d hx hb dX4_standingShare_23 ?_
    refine lv_iload_n hx hb dX4_standingShare_24 rfl (lv_at hl 0 rfl) ?_
    refine lv_i2d hx hb dX4_standingShare_25 ?_
    refine lv_ddiv hx hb dX4_standingShare_26 (gShare_n hn8 hbk c_9) ?_
    exact wr_dret hx hb hr hlocks hP hS rfl dX4_standingShare_27 (by exact ⟨by unfold gShare; rw [if_neg c_9], rfl⟩)
  · refine lv_dconst1 hx hb dX4_standingShare_12 ?_
    refine lv_goto (tgt := 27) hx hb dX4_standingShare_13 (by decide) ?_
    exact wr_dret hx hb hr hlocks hP hS rfl dX4_standingShare_27 (by exact ⟨by unfold gShare; rw [if_pos c_9], rfl⟩)
