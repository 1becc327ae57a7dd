abbrev ClP (ox op xO xW xN xC xA xM xG xT xH xR xF xB xX ob oc oh hc hp ot yc yt : Nat) (cI cZ : ClassId) (A9 : AS) (w9 : va_W) : Prop := ∃ (kn9 kS9 kF9 kT9 rg9 pa9 vl9 : Int32) (aO9 aW9 aN9 aC9 aA9 aM9 aG9 aT9 aH9 aR9 aF9 aB9 aX9 f9 zf9 zn9 td9 : Nat → Int32), clB A9.1.1 A9.1.2 f9 ∧ clH A9.2.1.1 A9.2.1.2 zf9 zn9 ∧ w9 = ClW ox op xO xW xN xC xA xM xG xT xH xR xF xB xX ob oc oh hc hp ot yc yt cI cZ kn9 aO9 aW9 aN9 aC9 aA9 kS9 aM9 aG9 aT9 aH9 aR9 aF9 kF9 aB9 kT9 aX9 (nI A9.1.1) f9 (nI A9.2.1.1) zf9 zn9 A9.2.2.2 (nI A9.2.2.1) td9 rg9 pa9 vl9
theorem bF {b : Bool} (h : b = false) : ¬ b = true := by rw [h]; decide
theorem ix_n {i : Nat} (h : i < 100) : ix (nI i) = i := nI_clamp (by omega)
theorem fr_hB : ∀ b0 b1 b2 b3 : Bool,
    (let m0 := if b0 then (0 : Int32) ||| gBit 0 else 0
     let m1 := if b1 then m0 ||| gBit 1 else m0
     let m2 := if b2 then m1 ||| gBit 2 else m1
     let m3 := if b3 then m2 ||| gBit 3 else m2
     hB m3 (nI 0) = b0 ∧ hB m3 (nI 1) = b1 ∧ hB m3 (nI 2) = b2 ∧ hB m3 (nI 3) = b3) := by decide +kernel
theorem gFr_hB {n : Nat} {P : Nat → Nat → Int32} {i : Nat} {y : Int32} (h : mIn y 0 3 = true) : hB (gFr n P i) y = (gOp n P i y && !gCl n P i y) := by
  obtain ⟨k, hk, rfl⟩ := mIn_nat (m := 3) h (by decide)
  rw [← mFr_eq]
  have e := fr_hB (gOp n P i (nI 0) && !gCl n P i (nI 0)) (gOp n P i (nI 1) && !gCl n P i (nI 1)) (gOp n P i (nI 2) && !gCl n P i (nI 2)) (gOp n P i (nI 3) && !gCl n P i (nI 3))
  have e2 : hB (mFr n P i) (nI 0) = (gOp n P i (nI 0) && !gCl n P i (nI 0)) ∧ hB (mFr n P i) (nI 1) = (gOp n P i (nI 1) && !gCl n P i (nI 1)) ∧ hB (mFr n P i) (nI 2) = (gOp n P i (nI 2) && !gCl n P i (nI 2)) ∧ hB (mFr n P i) (nI 3) = (gOp n P i (nI 3) && !gCl n P i (nI 3)) := e
  rcases (show k = 0 ∨ k = 1 ∨ k = 2 ∨ k = 3 by omega) with rfl | rfl | rfl | rfl
  · exact e2.1
  · exact e2.2.1
  · exact e2.2.2.1
  · exact e2.2.2.2
theorem tyR_fin {bf : Nat → Int32} {b : Nat} {s : TyS} : ((tyR bf b 0 s).1 = b ∧ (tyR bf b 0 s).2.1 = true) ∨ ((tyR bf b 0 s).1 < b ∧ (tyR bf b 0 s).2.1 = false) := by
  have key : ∀ (k i : Nat) (s : TyS), ((tyRun bf k i s).1 = i + k ∧ (tyRun bf k i s).2.1 = true) ∨ ((tyRun bf k i s).1 < i + k ∧ (tyRun bf k i s).2.1 = false) := by
    intro k
    induction k with
    | zero => intro i s; exact Or.inl ⟨rfl, rfl⟩
    | succ k ih =>
      intro i s
      rw [tyRun]
      split
      · rcases ih (i + 1) (tkS (bf i) s).2 with h | h
        · exact Or.inl ⟨by rw [h.1]; omega, h.2⟩
        · exact Or.inr ⟨by have := h.1; omega, h.2⟩
      · exact Or.inr ⟨by show i < i + (k + 1); omega, rfl⟩
  have h := key (b - 0) 0 s
  rw [show 0 + (b - 0) = b by omega] at h
  exact h
theorem c_X1_restore2 (l : Launch) (D : va_G) {oh hc hp ob oc : Nat} {cI : ClassId} {k n : Nat} {hf hn f : Nat → Int32} (h0 : 0 < k) (hk : k ≤ 6) : wr_M l yX1_restore wsX1_restore ({ frames := 1, cells := 0, slots := 0, locals := 60 } : Room) D (HiW oh hc hp ob oc cI (nI k) hf hn (nI n) f) [(cI, .int)] [.ref oh, .ref ob] (fun v w9 => v = none ∧ w9 = HiW oh hc hp ob oc cI (nI (k - 1)) hf hn (hn (k - 1)) (va_cpy hf f ((k - 1) * 48) 0 48)) := by
  obtain ⟨r, rfl⟩ : ∃ r, k = r + 1 := ⟨k - 1, by omega⟩
  exact c_X1_restore l D (by omega)
theorem c_X0_takeOut2 (l : Launch) (D : va_G) {ob oc : Nat} {cI : ClassId} {n pt : Nat} {P : Nat → Nat → Int32} {f : Nat → Int32} (h8 : n ≤ 8) (hpt : pt < n) (hf : ∀ i, i < n → ∀ k, k < 6 → f (8 * k + i) = P i k) : wr_M l yX0_takeOut wsX0_takeOut ({ frames := 0, cells := 0, slots := 0, locals := 0 } : Room) D (BdW ob oc cI (nI n) f) [(cI, .int)] [.ref ob, .int (nI pt)] (fun v w9 => v = none ∧ ∃ f9 : Nat → Int32, w9 = BdW ob oc cI (nI (n - 1)) f9 ∧ ∀ i, i < n - 1 → ∀ k, k < 6 → f9 (8 * k + i) = gOut P pt i k) := by
  obtain ⟨r, rfl⟩ : ∃ r, n = r + 1 := ⟨n - 1, by omega⟩
  exact c_X0_takeOut l D (by omega) (by omega) hf
theorem clB_rest {q : Nat} {hs : Nat → BS} {zf zn f : Nat → Int32} (h : clH q hs zf zn) (h0 : 0 < q) (h8 : (hs (q - 1)).1 ≤ 8) : clB (hs (q - 1)).1 (hs (q - 1)).2 (va_cpy zf f ((q - 1) * 48) 0 48) := by
  intro i hi k hk
  unfold va_cpy
  rw [if_pos (by omega), show (q - 1) * 48 + (8 * k + i - 0) = 48 * (q - 1) + 8 * k + i by omega]
  exact (h (q - 1) (by omega)).2 i hi k hk
theorem mRef_1 {n : Nat} {P : Nat → Nat → Int32} {x y wd hgt wt : Int32} (h : (mIn x 0 59 && mIn y 0 39) = false ∨ (mIn wd 1 20 && mIn hgt 1 9) = false ∨ mIn wt 1 99 = false) : mRef n P x y wd hgt wt = 1 := by
  unfold mRef
  rw [if_neg]
  intro q
  simp only [Bool.and_eq_true] at q
  rcases h with h | h | h
  · rw [q.1, q.2.1] at h; exact absurd h (by decide)
  · rw [q.2.2.1, q.2.2.2.1] at h; exact absurd h (by decide)
  · rw [q.2.2.2.2] at h; exact absurd h (by decide)
theorem mRef_tk {n : Nat} {P : Nat → Nat → Int32} {x y wd hgt wt : Int32} (h8 : n ≤ 8) (h1 : (mIn x 0 59 && mIn y 0 39) = true) (h2 : (mIn wd 1 20 && mIn hgt 1 9) = true) (h3 : mIn wt 1 99 = true) : mRef n P x y wd hgt wt = if gTk n P x y = true then 0 else 2 := by
  rw [Bool.and_eq_true] at h1 h2
  unfold mRef gTk
  rw [h1.1, h1.2, h2.1, h2.2, h3]
  simp only [Bool.and_self, if_true, Bool.and_eq_true, decide_eq_true_iff]
  by_cases c1 : n = 8 ∨ ¬ gPt n P x y = -1
  · rw [if_pos c1, if_neg]
    rintro ⟨q1, q2⟩
    rcases c1 with c1 | c1
    · omega
    · exact c1 q2
  · rw [if_neg c1, if_pos]
    refine ⟨?_, Classical.not_not.mp (fun z => c1 (Or.inr z))⟩
    have : ¬ n = 8 := fun z => c1 (Or.inl z)
    omega
theorem mRef_2 {n : Nat} {P : Nat → Nat → Int32} {x y wd hgt wt : Int32} (h8 : n ≤ 8) (h1 : (mIn x 0 59 && mIn y 0 39) = true) (h2 : (mIn wd 1 20 && mIn hgt 1 9) = true) (h3 : mIn wt 1 99 = true) (h4 : gTk n P x y = false) : mRef n P x y wd hgt wt = 2 := by rw [mRef_tk h8 h1 h2 h3, h4]; rfl
theorem mRef_00 {n : Nat} {P : Nat → Nat → Int32} {x y wd hgt wt : Int32} (h8 : n ≤ 8) (h1 : (mIn x 0 59 && mIn y 0 39) = true) (h2 : (mIn wd 1 20 && mIn hgt 1 9) = true) (h3 : mIn wt 1 99 = true) (h4 : gTk n P x y = true) : mRef n P x y wd hgt wt = 0 := by rw [mRef_tk h8 h1 h2 h3, h4]; rfl
theorem gTk_8 {n : Nat} {P : Nat → Nat → Int32} {x y : Int32} (h : gTk n P x y = true) : n < 8 := by
  unfold gTk at h
  rw [Bool.and_eq_true, decide_eq_true_iff] at h
  exact h.1
set_option maxHeartbeats 4000000 in
set_option maxRecDepth 100000 in
theorem c_X4_weigh (l : Launch) (hfl : l.stackTraces = false) (D : va_G) {ox op xO xW xN xC xA xM xG xT xH xR xF xB xX ob oc oh hc hp ot yc yt : Nat} {cI : ClassId} {cZ : ClassId} {n q b : Nat} {P : Nat → Nat → Int32} {kn kS kF kT rg pa vl : Int32} {aO aW aN aC aA aM aG aT aH aR aF aB aX f zf zn co td : Nat → Int32} {hs : Nat → BS} (hA : aOK ((n, P), (q, hs), (b, co))) (hf : clB n P f) (hh : clH q hs zf zn) (x y : Int32) : wx_M l yX4_weigh wsX4_weigh ({ frames := 6, cells := 1, slots := 6, locals := 101 } : Room) D (ClW ox op xO xW xN xC xA xM xG xT xH xR xF xB xX ob oc oh hc hp ot yc yt cI cZ kn aO aW aN aC aA kS aM aG aT aH aR aF kF aB kT aX (nI n) f (nI q) zf zn co (nI b) td rg pa vl) [(cI, .int), (cZ, .boolean)] [.ref ox, .int x, .int y] (fun v w9 => ∃ (r9 : Int32) (A9 : AS), v = some (.int r9) ∧ spWeigh ((n, P), (q, hs), (b, co)) x y = (0, r9, A9) ∧ ClP ox op xO xW xN xC xA xM xG xT xH xR xF xB xX ob oc oh hc hp ot yc yt cI cZ A9 w9) (fun E w9 => ((E = "java/lang/IndexOutOfBoundsException" ∧ spWeigh ((n, P), (q, hs), (b, co)) x y = (1, 0, ((n, P), (q, hs), (b, co)))) ∨ (E = "java/lang/IllegalArgumentException" ∧ spWeigh ((n, P), (q, hs), (b, co)) x y = (2, 0, ((n, P), (q, hs), (b, co))))) ∧ ClP ox op xO xW xN xC xA xM xG xT xH xR xF xB xX ob oc oh hc hp ot yc yt cI cZ ((n, P), (q, hs), (b, co)) w9) := by
  have hn8 : n ≤ 8 := hA.1.1
  have hbk : bd_ok n P := hA.1.2.1
  have hgd : bd_gd n P := hA.1.2.2
  have hq6 : q ≤ 6 := hA.2.1
  have hhs : ∀ j, j < q → (hs j).1 ≤ 8 := fun j hj => (hA.2.2.1 j hj).1
  have hb60 : b ≤ 60 := hA.2.2.2
  refine wx_of (cc := cX4_weigh) (maxL := 4) (ret := some .int) (by decide) rfl (Nat.le_of_ble_eq_true rfl) ?_
  intro p e s m below meth c hx hb hr hml hts hown hlocks htab hP hK hN hZ hT hD hS ls hl
  have hown : s.vm.findClass RX4 = some m.cls := hown
  have hl : lv_has ls 4 [(0, .ref ox), (1, .int x), (2, .int y)] := hl
  have hinX4 : ∀ w ∈ u_ws RX4 TX4 4, w ∈ wsX4_weigh := by decide +kernel
  have hw10 := hts (.fieldLink RX4 10 "CornerLabels" "board" "LCornerLabels$Board;") (by decide +kernel)
  have hw19 := hts (.fieldLink RX4 19 "CornerLabels" "history" "LCornerLabels$History;") (by decide +kernel)
  have hinX0 : ∀ w ∈ u_ws RX0 TX0 2, w ∈ wsX4_weigh := by decide +kernel
  have hw89 := hts (.fieldLink RX4 89 "CornerLabels$Board" "cells" "[I") (by decide +kernel)
  suffices body : ∀ (H : Heap) (locs : List Loc), va_P D vwCl (ClW ox op xO xW xN xC xA xM xG xT xH xR xF xB xX ob oc oh hc hp ot yc yt cI cZ kn aO aW aN aC aA kS aM aG aT aH aR aF kF aB kT aX (nI n) f (nI q) zf zn co (nI b) td rg pa vl) H → va_D (wr_in (ClW ox op xO xW xN xC xA xM xG xT xH xR xF xB xX ob oc oh hc hp ot yc yt cI cZ kn aO aW aN aC aA kS aM aG aT aH aR aF kF aB kT aX (nI n) f (nI q) zf zn co (nI b) td rg pa vl)) (ClW ox op xO xW xN xC xA xM xG xT xH xR xF xB xX ob oc oh hc hp ot yc yt cI cZ kn aO aW aN aC aA kS aM aG aT aH aR aF kF aB kT aX (nI n) f (nI q) zf zn co (nI b) td rg pa vl) → va_S (wr_in (ClW ox op xO xW xN xC xA xM xG xT xH xR xF xB xX ob oc oh hc hp ot yc yt cI cZ kn aO aW aN aC aA kS aM aG aT aH aR aF kF aB kT aX (nI n) f (nI q) zf zn co (nI b) td rg pa vl)) s.heap H locs → wx_W p l e wsX4_weigh ({ frames := 6, cells := 1, slots := 6, locals := 101 } : Room) s m [.ref ox, .int x, .int y] below meth c D (ClW ox op xO xW xN xC xA xM xG xT xH xR xF xB xX ob oc oh hc hp ot yc yt cI cZ kn aO aW aN aC aA kS aM aG aT aH aR aF kF aB kT aX (nI n) f (nI q) zf zn co (nI b) td rg pa vl) (fun v w9 => ∃ (r9 : Int32) (A9 : AS), v = some (.int r9) ∧ spWeigh ((n, P), (q, hs), (b, co)) x y = (0, r9, A9) ∧ ClP ox op xO xW xN xC xA xM xG xT xH xR xF xB xX ob oc oh hc hp ot yc yt cI cZ A9 w9) (fun E w9 => ((E = "java/lang/IndexOutOfBoundsException" ∧ spWeigh ((n, P), (q, hs), (b, co)) x y = (1, 0, ((n, P), (q, hs), (b, co)))) ∨ (E = "java/lang/IllegalArgumentException" ∧ spWeigh ((n, P), (q, hs), (b, co)) x y = (2, 0, ((n, P), (q, hs), (b, co))))) ∧ ClP ox op xO xW xN xC xA xM xG xT xH xR xF xB xX ob oc oh hc hp ot yc yt cI cZ ((n, P), (q, hs), (b, co)) w9) H locs (F0 m 0 ls []) from body _ _ hP hD hS
  clear hP hD hS
  intro H locs hP hD hS
  refine lv_aload_n hx hb dX4_weigh_0 rfl (lv_at hl 0 rfl) ?_
  refine va_get (D := D) (ci := 4) (v := .ref ob) (C := RX4) (T := TX4) (N := 4) hx hb hts hinX4 hown hK hP 0 rfl rfl 0 (by decide) hw10 (fun _ h9 => h9) rfl dX4_weigh_1 ?_
  refine lv_iload_n hx hb dX4_weigh_4 rfl (lv_at hl 1 rfl) ?_
  have hbd : bd_in (ClW ox op xO xW xN xC xA xM xG xT xH xR xF xB xX ob oc oh hc hp ot yc yt cI cZ kn aO aW aN aC aA kS aM aG aT aH aR aF kF aB kT aX (nI n) f (nI q) zf zn co (nI b) td rg pa vl) [(cI, .int), (cZ, .boolean)] ob n P := ⟨15, 16, 0, oc, cI, f, rfl, rfl, rfl, hn8, hf⟩
  refine rd_callV (As := [.int x]) (rest := []) ⟨hx, hb, hml, hown, hts⟩ (c_X0_has l D hbd x) (cwV 1 hts gX4_weigh_X0_has rfl rfl rfl (by decide +kernel) ⟨by decide, by decide⟩) hK hN hP (q0 := 15) rfl rfl rfl hl.1 rfl (Nat.le_of_ble_eq_true rfl) ⟨by decide, by decide⟩ dX4_weigh_5 ?_
  refine rd_ifne_b (tgt := 21) hx hb dX4_weigh_8 (by decide) (fun c_8 => ?_) (fun c_8 => ?_)
  · obtain ⟨i, hi, ei⟩ := (gHas_iff hn8).mp c_8
    rw [ei] at hl
    have hl : lv_has ls 4 [(0, .ref ox), (1, .int (nI i)), (2, .int y)] := hl
    refine lv_iload_n hx hb dX4_weigh_21 rfl (lv_at hl 2 rfl) ?_
    refine rd_callS (As := [.int y]) (rest := []) ⟨hx, hb, hml, hown, hts⟩ (c_X4_isWeight l D y) (va_cwS 1 hts gX4_weigh_X4_isWeight rfl rfl rfl (by decide +kernel) ⟨by decide, by decide⟩) hK hN hP rfl hl.1 rfl (Nat.le_of_ble_eq_true rfl) ⟨by decide, by decide⟩ dX4_weigh_22 ?_
    refine rd_ifne_b (tgt := 38) hx hb dX4_weigh_25 (by decide) (fun c_25 => ?_) (fun c_25 => ?_)
    · refine lv_aload_n hx hb dX4_weigh_38 rfl (lv_at hl 0 rfl) ?_
      refine va_get (D := D) (ci := 4) (v := .ref oh) (C := RX4) (T := TX4) (N := 4) hx hb hts hinX4 hown hK hP 0 rfl rfl 1 (by decide) hw19 (fun _ h9 => h9) rfl dX4_weigh_39 ?_
      refine lv_aload_n hx hb dX4_weigh_42 rfl (lv_at hl 0 rfl) ?_
      refine va_get (D := D) (ci := 4) (v := .ref ob) (C := RX4) (T := TX4) (N := 4) hx hb hts hinX4 hown hK hP 0 rfl rfl 0 (by decide) hw10 (fun _ h9 => h9) rfl dX4_weigh_43 ?_
      refine wr_callV (As := [.ref ob]) (rest := []) ⟨hx, hb, hml, hown, hts⟩ (c_X1_save l D (k := q) hq6) (cwV 1 hts gX4_weigh_X1_save rfl rfl rfl (by decide +kernel) ⟨by decide, by decide⟩) hK hN hZ hP hD hS [17, 18, 19, 15, 16] [0] rfl (by decide) rfl (q0 := 17) rfl rfl rfl hl.1 rfl (Nat.le_of_ble_eq_true rfl) ⟨by decide, by decide⟩ dX4_weigh_46 (fun v9 w9 H locs hp9 hP hD hS => ?_)
      obtain ⟨rfl, rfl⟩ := hp9
      have hP : va_P D vwCl (ClW ox op xO xW xN xC xA xM xG xT xH xR xF xB xX ob oc oh hc hp ot yc yt cI cZ kn aO aW aN aC aA kS aM aG aT aH aR aF kF aB kT aX (nI n) f (nI ((if q < 6 then q else 5) + 1)) (va_cpy f (if q < 6 then zf else va_cpy zf zf 48 0 240) 0 ((if q < 6 then q else 5) * 48) 48) (upd (if q < 6 then zn else va_cpy zn zn 1 0 5) (if q < 6 then q else 5) (nI n)) co (nI b) td rg pa vl) H := hP
      have hD : va_D (wr_in (ClW ox op xO xW xN xC xA xM xG xT xH xR xF xB xX ob oc oh hc hp ot yc yt cI cZ kn aO aW aN aC aA kS aM aG aT aH aR aF kF aB kT aX (nI n) f (nI q) zf zn co (nI b) td rg pa vl)) (ClW ox op xO xW xN xC xA xM xG xT xH xR xF xB xX ob oc oh hc hp ot yc yt cI cZ kn aO aW aN aC aA kS aM aG aT aH aR aF kF aB kT aX (nI n) f (nI ((if q < 6 then q else 5) + 1)) (va_cpy f (if q < 6 then zf else va_cpy zf zf 48 0 240) 0 ((if q < 6 then q else 5) * 48) 48) (upd (if q < 6 then zn else va_cpy zn zn 1 0 5) (if q < 6 then q else 5) (nI n)) co (nI b) td rg pa vl) := hD
      refine W.eq (g2 := F0 m 49 ls []) rfl ?_
      refine lv_aload_n hx hb dX4_weigh_49 rfl (lv_at hl 0 rfl) ?_
      refine va_get (D := D) (ci := 4) (v := .ref ob) (C := RX4) (T := TX4) (N := 4) hx hb hts hinX4 hown hK hP 0 rfl rfl 0 (by decide) hw10 (fun _ h9 => h9) rfl dX4_weigh_50 ?_
      refine va_get (D := D) (ci := 0) (v := .ref oc) (C := RX0) (T := TX0) (N := 2) hx hb hts hinX0 hown hK hP 15 rfl rfl 0 (by decide) hw89 (fun _ h9 => h9) rfl dX4_weigh_53 ?_
      refine lv_bipush (v := 32) hx hb dX4_weigh_56 (by decide) ?_
      refine lv_iload_n hx hb dX4_weigh_58 rfl (lv_at hl 1 rfl) ?_
      refine lv_iadd hx hb dX4_weigh_59 ?_
      refine lv_asi (y := nI (32 + i)) (nI_add 32 i) ?_
      refine rd_ald (q0 := 16) (t0 := 0) (j := 32 + i) (v := P i 4) hx hb hK hP rfl rfl (rfl) (by omega) (by decide) (by rw [show 32 + i = 8 * 4 + i by omega]; exact hf i hi 4 (by decide)) dX4_weigh_60 ?_
      refine lv_istore_n (lv' := [(3, .int (P i 4)), (0, .ref ox), (1, .int (nI i)), (2, .int y)]) hx hb dX4_weigh_61 rfl hl (by decide) rfl (fun ls hl => ?_)
      refine lv_aload_n hx hb dX4_weigh_62 rfl (lv_at hl 1 rfl) ?_
      refine va_get (D := D) (ci := 4) (v := .ref ob) (C := RX4) (T := TX4) (N := 4) hx hb hts hinX4 hown hK hP 0 rfl rfl 0 (by decide) hw10 (fun _ h9 => h9) rfl dX4_weigh_63 ?_
      refine va_get (D := D) (ci := 0) (v := .ref oc) (C := RX0) (T := TX0) (N := 2) hx hb hts hinX0 hown hK hP 15 rfl rfl 0 (by decide) hw89 (fun _ h9 => h9) rfl dX4_weigh_66 ?_
      refine lv_bipush (v := 32) hx hb dX4_weigh_69 (by decide) ?_
      refine lv_iload_n hx hb dX4_weigh_71 rfl (lv_at hl 2 rfl) ?_
      refine lv_iadd hx hb dX4_weigh_72 ?_
      refine lv_asi (y := nI (32 + i)) (nI_add 32 i) ?_
      refine lv_iload_n hx hb dX4_weigh_73 rfl (lv_at hl 3 rfl) ?_
      refine wr_ast (q0 := 16) (t0 := 0) (j := 32 + i) hx hb hK hP hD hS rfl rfl (rfl) (by omega) (by decide) dX4_weigh_74 (fun H locs hP hD hS => ?_)
      obtain ⟨f_74, ef_74⟩ : ∃ zz9 : Nat → Int32, zz9 = upd f (32 + i) y := ⟨_, rfl⟩
      rw [← ef_74] at hP hD
      have hP : va_P D vwCl (ClW ox op xO xW xN xC xA xM xG xT xH xR xF xB xX ob oc oh hc hp ot yc yt cI cZ kn aO aW aN aC aA kS aM aG aT aH aR aF kF aB kT aX (nI n) f_74 (nI ((if q < 6 then q else 5) + 1)) (va_cpy f (if q < 6 then zf else va_cpy zf zf 48 0 240) 0 ((if q < 6 then q else 5) * 48) 48) (upd (if q < 6 then zn else va_cpy zn zn 1 0 5) (if q < 6 then q else 5) (nI n)) co (nI b) td rg pa vl) H := hP
      have hD : va_D (wr_in (ClW ox op xO xW xN xC xA xM xG xT xH xR xF xB xX ob oc oh hc hp ot yc yt cI cZ kn aO aW aN aC aA kS aM aG aT aH aR aF kF aB kT aX (nI n) f (nI q) zf zn co (nI b) td rg pa vl)) (ClW ox op xO xW xN xC xA xM xG xT xH xR xF xB xX ob oc oh hc hp ot yc yt cI cZ kn aO aW aN aC aA kS aM aG aT aH aR aF kF aB kT aX (nI n) f_74 (nI ((if q < 6 then q else 5) + 1)) (va_cpy f (if q < 6 then zf else va_cpy zf zf 48 0 240) 0 ((if q < 6 then q else 5) * 48) 48) (upd (if q < 6 then zn else va_cpy zn zn 1 0 5) (if q < 6 then q else 5) (nI n)) co (nI b) td rg pa vl) := hD
      refine lv_iload_n hx hb dX4_weigh_75 rfl (lv_at hl 0 rfl) ?_
      exact wx_iret hx hb hr hlocks hP hS rfl dX4_weigh_76 (by exact ⟨_, aPut (n, gSet P i 4 y) ((n, P), (q, hs), (b, co)), rfl, by unfold spWeigh; dsimp only; rw [if_pos c_8, if_pos c_25, ei, ix_n (by omega)], _, _, _, _, _, _, _, _, _, _, _, _, _, _, _, _, _, _, _, _, _, _, _, _, (clB_set (k := 4) hn8 hi (by decide) hf ef_74), (clH_save hq6 hn8 hhs hh hf), rfl⟩)
    · exact wx_throw (cls := "java/lang/IllegalArgumentException") (text := "weight is out of range") (ik := 48) (is := 87) (ic := 52) hx hb hfl hown hlocks htab (hl.1.trans hml.symm) hT hP hS rfl (⟨Or.inr (⟨rfl, by unfold spWeigh; dsimp only; rw [if_pos c_8, if_neg (bF c_25)]⟩), _, _, _, _, _, _, _, _, _, _, _, _, _, _, _, _, _, _, _, _, _, _, _, _, hf, hh, rfl⟩) (by decide +kernel) (hts (.classLink RX4 48 "java/lang/IllegalArgumentException") (by decide +kernel)) (hts (.initialized "java/lang/IllegalArgumentException") (by decide +kernel)) (by decide) (fun w hw => hts w (List.mem_cons_of_mem _ (List.mem_append_right _ hw))) (by decide +kernel) hT.2.2.1.1 (by decide +kernel) dX4_weigh_28 dX4_weigh_31 dX4_weigh_32 dX4_weigh_34 dX4_weigh_37 (by decide) (by decide) (by decide) (by decide)
  · exact wx_throw (cls := "java/lang/IndexOutOfBoundsException") (text := "no such point") (ik := 74) (is := 76) (ic := 78) hx hb hfl hown hlocks htab (hl.1.trans hml.symm) hT hP hS rfl (⟨Or.inl ⟨rfl, by unfold spWeigh; dsimp only; rw [if_neg (bF c_8)]⟩, _, _, _, _, _, _, _, _, _, _, _, _, _, _, _, _, _, _, _, _, _, _, _, _, hf, hh, rfl⟩) (by decide +kernel) (hts (.classLink RX4 74 "java/lang/IndexOutOfBoundsException") (by decide +kernel)) (hts (.initialized "java/lang/IndexOutOfBoundsException") (by decide +kernel)) (by decide) (fun w hw => hts w (List.mem_cons_of_mem _ (List.mem_append_left _ (List.mem_append_right _ hw)))) (by decide +kernel) hT.2.2.1.2.2.1 (by decide +kernel) dX4_weigh_11 dX4_weigh_14 dX4_weigh_15 dX4_weigh_17 dX4_weigh_20 (by decide) (by decide) (by decide) (by decide)
set_option maxHeartbeats 4000000 in
set_option maxRecDepth 100000 in
theorem c_X4_resize (l : Launch) (hfl : l.stackTraces = false) (D : va_G) {ox op xO xW xN xC xA xM xG xT xH xR xF xB xX ob oc oh hc hp ot yc yt : Nat} {cI : ClassId} {cZ : ClassId} {n q b : Nat} {P : Nat → Nat → Int32} {kn kS kF kT rg pa vl : Int32} {aO aW aN aC aA aM aG aT aH aR aF aB aX f zf zn co td : Nat → Int32} {hs : Nat → BS} (hA : aOK ((n, P), (q, hs), (b, co))) (hf : clB n P f) (hh : clH q hs zf zn) (x y z : Int32) : wx_M l yX4_resize wsX4_resize ({ frames := 6, cells := 1, slots := 6, locals := 101 } : Room) D (ClW ox op xO xW xN xC xA xM xG xT xH xR xF xB xX ob oc oh hc hp ot yc yt cI cZ kn aO aW aN aC aA kS aM aG aT aH aR aF kF aB kT aX (nI n) f (nI q) zf zn co (nI b) td rg pa vl) [(cI, .int), (cZ, .boolean)] [.ref ox, .int x, .int y, .int z] (fun v w9 => ∃ (r9 : Int32) (A9 : AS), v = some (.int r9) ∧ spResize ((n, P), (q, hs), (b, co)) x y z = (0, r9, A9) ∧ ClP ox op xO xW xN xC xA xM xG xT xH xR xF xB xX ob oc oh hc hp ot yc yt cI cZ A9 w9) (fun E w9 => ((E = "java/lang/IndexOutOfBoundsException" ∧ spResize ((n, P), (q, hs), (b, co)) x y z = (1, 0, ((n, P), (q, hs), (b, co)))) ∨ (E = "java/lang/IllegalArgumentException" ∧ spResize ((n, P), (q, hs), (b, co)) x y z = (2, 0, ((n, P), (q, hs), (b, co))))) ∧ ClP ox op xO xW xN xC xA xM xG xT xH xR xF xB xX ob oc oh hc hp ot yc yt cI cZ ((n, P), (q, hs), (b, co)) w9) := by
  have hn8 : n ≤ 8 := hA.1.1
  have hbk : bd_ok n P := hA.1.2.1
  have hgd : bd_gd n P := hA.1.2.2
  have hq6 : q ≤ 6 := hA.2.1
  have hhs : ∀ j, j < q → (hs j).1 ≤ 8 := fun j hj => (hA.2.2.1 j hj).1
  have hb60 : b ≤ 60 := hA.2.2.2
  refine wx_of (cc := cX4_resize) (maxL := 4) (ret := some .int) (by decide) rfl (Nat.le_of_ble_eq_true rfl) ?_
  intro p e s m below meth c hx hb hr hml hts hown hlocks htab hP hK hN hZ hT hD hS ls hl
  have hown : s.vm.findClass RX4 = some m.cls := hown
  have hl : lv_has ls 4 [(0, .ref ox), (1, .int x), (2, .int y), (3, .int z)] := hl
  have hinX4 : ∀ w ∈ u_ws RX4 TX4 4, w ∈ wsX4_resize := by decide +kernel
  have hw10 := hts (.fieldLink RX4 10 "CornerLabels" "board" "LCornerLabels$Board;") (by decide +kernel)
  have hw19 := hts (.fieldLink RX4 19 "CornerLabels" "history" "LCornerLabels$History;") (by decide +kernel)
  have hinX0 : ∀ w ∈ u_ws RX0 TX0 2, w ∈ wsX4_resize := by decide +kernel
  have hw89 := hts (.fieldLink RX4 89 "CornerLabels$Board" "cells" "[I") (by decide +kernel)
  suffices body : ∀ (H : Heap) (locs : List Loc), va_P D vwCl (ClW ox op xO xW xN xC xA xM xG xT xH xR xF xB xX ob oc oh hc hp ot yc yt cI cZ kn aO aW aN aC aA kS aM aG aT aH aR aF kF aB kT aX (nI n) f (nI q) zf zn co (nI b) td rg pa vl) H → va_D (wr_in (ClW ox op xO xW xN xC xA xM xG xT xH xR xF xB xX ob oc oh hc hp ot yc yt cI cZ kn aO aW aN aC aA kS aM aG aT aH aR aF kF aB kT aX (nI n) f (nI q) zf zn co (nI b) td rg pa vl)) (ClW ox op xO xW xN xC xA xM xG xT xH xR xF xB xX ob oc oh hc hp ot yc yt cI cZ kn aO aW aN aC aA kS aM aG aT aH aR aF kF aB kT aX (nI n) f (nI q) zf zn co (nI b) td rg pa vl) → va_S (wr_in (ClW ox op xO xW xN xC xA xM xG xT xH xR xF xB xX ob oc oh hc hp ot yc yt cI cZ kn aO aW aN aC aA kS aM aG aT aH aR aF kF aB kT aX (nI n) f (nI q) zf zn co (nI b) td rg pa vl)) s.heap H locs → wx_W p l e wsX4_resize ({ frames := 6, cells := 1, slots := 6, locals := 101 } : Room) s m [.ref ox, .int x, .int y, .int z] below meth c D (ClW ox op xO xW xN xC xA xM xG xT xH xR xF xB xX ob oc oh hc hp ot yc yt cI cZ kn aO aW aN aC aA kS aM aG aT aH aR aF kF aB kT aX (nI n) f (nI q) zf zn co (nI b) td rg pa vl) (fun v w9 => ∃ (r9 : Int32) (A9 : AS), v = some (.int r9) ∧ spResize ((n, P), (q, hs), (b, co)) x y z = (0, r9, A9) ∧ ClP ox op xO xW xN xC xA xM xG xT xH xR xF xB xX ob oc oh hc hp ot yc yt cI cZ A9 w9) (fun E w9 => ((E = "java/lang/IndexOutOfBoundsException" ∧ spResize ((n, P), (q, hs), (b, co)) x y z = (1, 0, ((n, P), (q, hs), (b, co)))) ∨ (E = "java/lang/IllegalArgumentException" ∧ spResize ((n, P), (q, hs), (b, co)) x y z = (2, 0, ((n, P), (q, hs), (b, co))))) ∧ ClP ox op xO xW xN xC xA xM xG xT xH xR xF xB xX ob oc oh hc hp ot yc yt cI cZ ((n, P), (q, hs), (b, co)) w9) H locs (F0 m 0 ls []) from body _ _ hP hD hS
  clear hP hD hS
  intro H locs hP hD hS
  refine lv_aload_n hx hb dX4_resize_0 rfl (lv_at hl 0 rfl) ?_
  refine va_get (D := D) (ci := 4) (v := .ref ob) (C := RX4) (T := TX4) (N := 4) hx hb hts hinX4 hown hK hP 0 rfl rfl 0 (by decide) hw10 (fun _ h9 => h9) rfl dX4_resize_1 ?_
  refine lv_iload_n hx hb dX4_resize_4 rfl (lv_at hl 1 rfl) ?_
  have hbd : bd_in (ClW ox op xO xW xN xC xA xM xG xT xH xR xF xB xX ob oc oh hc hp ot yc yt cI cZ kn aO aW aN aC aA kS aM aG aT aH aR aF kF aB kT aX (nI n) f (nI q) zf zn co (nI b) td rg pa vl) [(cI, .int), (cZ, .boolean)] ob n P := ⟨15, 16, 0, oc, cI, f, rfl, rfl, rfl, hn8, hf⟩
  refine rd_callV (As := [.int x]) (rest := []) ⟨hx, hb, hml, hown, hts⟩ (c_X0_has l D hbd x) (cwV 1 hts gX4_resize_X0_has rfl rfl rfl (by decide +kernel) ⟨by decide, by decide⟩) hK hN hP (q0 := 15) rfl rfl rfl hl.1 rfl (Nat.le_of_ble_eq_true rfl) ⟨by decide, by decide⟩ dX4_resize_5 ?_
  refine rd_ifne_b (tgt := 21) hx hb dX4_resize_8 (by decide) (fun c_8 => ?_) (fun c_8 => ?_)
  · obtain ⟨i, hi, ei⟩ := (gHas_iff hn8).mp c_8
    rw [ei] at hl
    have hl : lv_has ls 4 [(0, .ref ox), (1, .int (nI i)), (2, .int y), (3, .int z)] := hl
    refine lv_iload_n hx hb dX4_resize_21 rfl (lv_at hl 2 rfl) ?_
    refine lv_iload_n hx hb dX4_resize_22 rfl (lv_at hl 3 rfl) ?_
    refine rd_callS (As := [.int y, .int z]) (rest := []) ⟨hx, hb, hml, hown, hts⟩ (c_X4_isSize l D y z) (va_cwS 2 hts gX4_resize_X4_isSize rfl rfl rfl (by decide +kernel) ⟨by decide, by decide⟩) hK hN hP rfl hl.1 rfl (Nat.le_of_ble_eq_true rfl) ⟨by decide, by decide⟩ dX4_resize_23 ?_
    refine rd_ifne_b (tgt := 39) hx hb dX4_resize_26 (by decide) (fun c_26 => ?_) (fun c_26 => ?_)
    · refine lv_aload_n hx hb dX4_resize_39 rfl (lv_at hl 0 rfl) ?_
      refine va_get (D := D) (ci := 4) (v := .ref oh) (C := RX4) (T := TX4) (N := 4) hx hb hts hinX4 hown hK hP 0 rfl rfl 1 (by decide) hw19 (fun _ h9 => h9) rfl dX4_resize_40 ?_
      refine lv_aload_n hx hb dX4_resize_43 rfl (lv_at hl 0 rfl) ?_
      refine va_get (D := D) (ci := 4) (v := .ref ob) (C := RX4) (T := TX4) (N := 4) hx hb hts hinX4 hown hK hP 0 rfl rfl 0 (by decide) hw10 (fun _ h9 => h9) rfl dX4_resize_44 ?_
      refine wr_callV (As := [.ref ob]) (rest := []) ⟨hx, hb, hml, hown, hts⟩ (c_X1_save l D (k := q) hq6) (cwV 1 hts gX4_resize_X1_save rfl rfl rfl (by decide +kernel) ⟨by decide, by decide⟩) hK hN hZ hP hD hS [17, 18, 19, 15, 16] [0] rfl (by decide) rfl (q0 := 17) rfl rfl rfl hl.1 rfl (Nat.le_of_ble_eq_true rfl) ⟨by decide, by decide⟩ dX4_resize_47 (fun v9 w9 H locs hp9 hP hD hS => ?_)
      obtain ⟨rfl, rfl⟩ := hp9
      have hP : va_P D vwCl (ClW ox op xO xW xN xC xA xM xG xT xH xR xF xB xX ob oc oh hc hp ot yc yt cI cZ kn aO aW aN aC aA kS aM aG aT aH aR aF kF aB kT aX (nI n) f (nI ((if q < 6 then q else 5) + 1)) (va_cpy f (if q < 6 then zf else va_cpy zf zf 48 0 240) 0 ((if q < 6 then q else 5) * 48) 48) (upd (if q < 6 then zn else va_cpy zn zn 1 0 5) (if q < 6 then q else 5) (nI n)) co (nI b) td rg pa vl) H := hP
      have hD : va_D (wr_in (ClW ox op xO xW xN xC xA xM xG xT xH xR xF xB xX ob oc oh hc hp ot yc yt cI cZ kn aO aW aN aC aA kS aM aG aT aH aR aF kF aB kT aX (nI n) f (nI q) zf zn co (nI b) td rg pa vl)) (ClW ox op xO xW xN xC xA xM xG xT xH xR xF xB xX ob oc oh hc hp ot yc yt cI cZ kn aO aW aN aC aA kS aM aG aT aH aR aF kF aB kT aX (nI n) f (nI ((if q < 6 then q else 5) + 1)) (va_cpy f (if q < 6 then zf else va_cpy zf zf 48 0 240) 0 ((if q < 6 then q else 5) * 48) 48) (upd (if q < 6 then zn else va_cpy zn zn 1 0 5) (if q < 6 then q else 5) (nI n)) co (nI b) td rg pa vl) := hD
      refine W.eq (g2 := F0 m 50 ls []) rfl ?_
      refine lv_aload_n hx hb dX4_resize_50 rfl (lv_at hl 0 rfl) ?_
      refine va_get (D := D) (ci := 4) (v := .ref ob) (C := RX4) (T := TX4) (N := 4) hx hb hts hinX4 hown hK hP 0 rfl rfl 0 (by decide) hw10 (fun _ h9 => h9) rfl dX4_resize_51 ?_
      refine va_get (D := D) (ci := 0) (v := .ref oc) (C := RX0) (T := TX0) (N := 2) hx hb hts hinX0 hown hK hP 15 rfl rfl 0 (by decide) hw89 (fun _ h9 => h9) rfl dX4_resize_54 ?_
      refine lv_bipush (v := 16) hx hb dX4_resize_57 (by decide) ?_
      refine lv_iload_n hx hb dX4_resize_59 rfl (lv_at hl 1 rfl) ?_
      refine lv_iadd hx hb dX4_resize_60 ?_
      refine lv_asi (y := nI (16 + i)) (nI_add 16 i) ?_
      refine lv_iload_n hx hb dX4_resize_61 rfl (lv_at hl 2 rfl) ?_
      refine wr_ast (q0 := 16) (t0 := 0) (j := 16 + i) hx hb hK hP hD hS rfl rfl (rfl) (by omega) (by decide) dX4_resize_62 (fun H locs hP hD hS => ?_)
      obtain ⟨f_62, ef_62⟩ : ∃ zz9 : Nat → Int32, zz9 = upd f (16 + i) y := ⟨_, rfl⟩
      rw [← ef_62] at hP hD
      have hP : va_P D vwCl (ClW ox op xO xW xN xC xA xM xG xT xH xR xF xB xX ob oc oh hc hp ot yc yt cI cZ kn aO aW aN aC aA kS aM aG aT aH aR aF kF aB kT aX (nI n) f_62 (nI ((if q < 6 then q else 5) + 1)) (va_cpy f (if q < 6 then zf else va_cpy zf zf 48 0 240) 0 ((if q < 6 then q else 5) * 48) 48) (upd (if q < 6 then zn else va_cpy zn zn 1 0 5) (if q < 6 then q else 5) (nI n)) co (nI b) td rg pa vl) H := hP
      have hD : va_D (wr_in (ClW ox op xO xW xN xC xA xM xG xT xH xR xF xB xX ob oc oh hc hp ot yc yt cI cZ kn aO aW aN aC aA kS aM aG aT aH aR aF kF aB kT aX (nI n) f (nI q) zf zn co (nI b) td rg pa vl)) (ClW ox op xO xW xN xC xA xM xG xT xH xR xF xB xX ob oc oh hc hp ot yc yt cI cZ kn aO aW aN aC aA kS aM aG aT aH aR aF kF aB kT aX (nI n) f_62 (nI ((if q < 6 then q else 5) + 1)) (va_cpy f (if q < 6 then zf else va_cpy zf zf 48 0 240) 0 ((if q < 6 then q else 5) * 48) 48) (upd (if q < 6 then zn else va_cpy zn zn 1 0 5) (if q < 6 then q else 5) (nI n)) co (nI b) td rg pa vl) := hD
      refine lv_aload_n hx hb dX4_resize_63 rfl (lv_at hl 0 rfl) ?_
      refine va_get (D := D) (ci := 4) (v := .ref ob) (C := RX4) (T := TX4) (N := 4) hx hb hts hinX4 hown hK hP 0 rfl rfl 0 (by decide) hw10 (fun _ h9 => h9) rfl dX4_resize_64 ?_
      refine va_get (D := D) (ci := 0) (v := .ref oc) (C := RX0) (T := TX0) (N := 2) hx hb hts hinX0 hown hK hP 15 rfl rfl 0 (by decide) hw89 (fun _ h9 => h9) rfl dX4_resize_67 ?_
      refine lv_bipush (v := 24) hx hb dX4_resize_70 (by decide) ?_
      refine lv_iload_n hx hb dX4_resize_72 rfl (lv_at hl 1 rfl) ?_
      refine lv_iadd hx hb dX4_resize_73 ?_
      refine lv_asi (y := nI (24 + i)) (nI_add 24 i) ?_
      refine lv_iload_n hx hb dX4_resize_74 rfl (lv_at hl 3 rfl) ?_
      refine wr_ast (q0 := 16) (t0 := 0) (j := 24 + i) hx hb hK hP hD hS rfl rfl (rfl) (by omega) (by decide) dX4_resize_75 (fun H locs hP hD hS => ?_)
      obtain ⟨f_75, ef_75⟩ : ∃ zz9 : Nat → Int32, zz9 = upd f_62 (24 + i) z := ⟨_, rfl⟩
      rw [← ef_75] at hP hD
      have hP : va_P D vwCl (ClW ox op xO xW xN xC xA xM xG xT xH xR xF xB xX ob oc oh hc hp ot yc yt cI cZ kn aO aW aN aC aA kS aM aG aT aH aR aF kF aB kT aX (nI n) f_75 (nI ((if q < 6 then q else 5) + 1)) (va_cpy f (if q < 6 then zf else va_cpy zf zf 48 0 240) 0 ((if q < 6 then q else 5) * 48) 48) (upd (if q < 6 then zn else va_cpy zn zn 1 0 5) (if q < 6 then q else 5) (nI n)) co (nI b) td rg pa vl) H := hP
      have hD : va_D (wr_in (ClW ox op xO xW xN xC xA xM xG xT xH xR xF xB xX ob oc oh hc hp ot yc yt cI cZ kn aO aW aN aC aA kS aM aG aT aH aR aF kF aB kT aX (nI n) f (nI q) zf zn co (nI b) td rg pa vl)) (ClW ox op xO xW xN xC xA xM xG xT xH xR xF xB xX ob oc oh hc hp ot yc yt cI cZ kn aO aW aN aC aA kS aM aG aT aH aR aF kF aB kT aX (nI n) f_75 (nI ((if q < 6 then q else 5) + 1)) (va_cpy f (if q < 6 then zf else va_cpy zf zf 48 0 240) 0 ((if q < 6 then q else 5) * 48) 48) (upd (if q < 6 then zn else va_cpy zn zn 1 0 5) (if q < 6 then q else 5) (nI n)) co (nI b) td rg pa vl) := hD
      refine lv_aload_n hx hb dX4_resize_76 rfl (lv_at hl 0 rfl) ?_
      refine va_get (D := D) (ci := 4) (v := .ref ob) (C := RX4) (T := TX4) (N := 4) hx hb hts hinX4 hown hK hP 0 rfl rfl 0 (by decide) hw10 (fun _ h9 => h9) rfl dX4_resize_77 ?_
      refine va_get (D := D) (ci := 0) (v := .ref oc) (C := RX0) (T := TX0) (N := 2) hx hb hts hinX0 hown hK hP 15 rfl rfl 0 (by decide) hw89 (fun _ h9 => h9) rfl dX4_resize_80 ?_
      refine lv_bipush (v := 40) hx hb dX4_resize_83 (by decide) ?_
      refine lv_iload_n hx hb dX4_resize_85 rfl (lv_at hl 1 rfl) ?_
      refine lv_iadd hx hb dX4_resize_86 ?_
      refine lv_asi (y := nI (40 + i)) (nI_add 40 i) ?_
      refine lv_iconst (v := (-1)) hx hb dX4_resize_87 (by decide) ?_
      refine wr_ast (q0 := 16) (t0 := 0) (j := 40 + i) hx hb hK hP hD hS rfl rfl (rfl) (by omega) (by decide) dX4_resize_88 (fun H locs hP hD hS => ?_)
      obtain ⟨f_88, ef_88⟩ : ∃ zz9 : Nat → Int32, zz9 = upd f_75 (40 + i) (-1) := ⟨_, rfl⟩
      rw [← ef_88] at hP hD
      have hP : va_P D vwCl (ClW ox op xO xW xN xC xA xM xG xT xH xR xF xB xX ob oc oh hc hp ot yc yt cI cZ kn aO aW aN aC aA kS aM aG aT aH aR aF kF aB kT aX (nI n) f_88 (nI ((if q < 6 then q else 5) + 1)) (va_cpy f (if q < 6 then zf else va_cpy zf zf 48 0 240) 0 ((if q < 6 then q else 5) * 48) 48) (upd (if q < 6 then zn else va_cpy zn zn 1 0 5) (if q < 6 then q else 5) (nI n)) co (nI b) td rg pa vl) H := hP
      have hD : va_D (wr_in (ClW ox op xO xW xN xC xA xM xG xT xH xR xF xB xX ob oc oh hc hp ot yc yt cI cZ kn aO aW aN aC aA kS aM aG aT aH aR aF kF aB kT aX (nI n) f (nI q) zf zn co (nI b) td rg pa vl)) (ClW ox op xO xW xN xC xA xM xG xT xH xR xF xB xX ob oc oh hc hp ot yc yt cI cZ kn aO aW aN aC aA kS aM aG aT aH aR aF kF aB kT aX (nI n) f_88 (nI ((if q < 6 then q else 5) + 1)) (va_cpy f (if q < 6 then zf else va_cpy zf zf 48 0 240) 0 ((if q < 6 then q else 5) * 48) 48) (upd (if q < 6 then zn else va_cpy zn zn 1 0 5) (if q < 6 then q else 5) (nI n)) co (nI b) td rg pa vl) := hD
      have hf5 : clB n (gSet (gSet (gSet P i 2 y) i 3 z) i 5 (-1)) f_88 := clB_set (k := 5) hn8 hi (by decide) (clB_set (k := 3) hn8 hi (by decide) (clB_set (k := 2) hn8 hi (by decide) hf ef_62) ef_75) ef_88
      refine lv_aload_n hx hb dX4_resize_89 rfl (lv_at hl 0 rfl) ?_
      refine va_get (D := D) (ci := 4) (v := .ref ob) (C := RX4) (T := TX4) (N := 4) hx hb hts hinX4 hown hK hP 0 rfl rfl 0 (by decide) hw10 (fun _ h9 => h9) rfl dX4_resize_90 ?_
      refine lv_iload_n hx hb dX4_resize_93 rfl (lv_at hl 1 rfl) ?_
      have hbd : bd_in (ClW ox op xO xW xN xC xA xM xG xT xH xR xF xB xX ob oc oh hc hp ot yc yt cI cZ kn aO aW aN aC aA kS aM aG aT aH aR aF kF aB kT aX (nI n) f_88 (nI ((if q < 6 then q else 5) + 1)) (va_cpy f (if q < 6 then zf else va_cpy zf zf 48 0 240) 0 ((if q < 6 then q else 5) * 48) 48) (upd (if q < 6 then zn else va_cpy zn zn 1 0 5) (if q < 6 then q else 5) (nI n)) co (nI b) td rg pa vl) [(cI, .int), (cZ, .boolean)] ob n (gSet (gSet (gSet P i 2 y) i 3 z) i 5 (-1)) := ⟨15, 16, 0, oc, cI, f_88, rfl, rfl, rfl, hn8, hf5⟩
      refine rd_callV (As := [.int (nI i)]) (rest := []) ⟨hx, hb, hml, hown, hts⟩ (c_X0_openMask l D hbd hi) (cwV 1 hts gX4_resize_X0_openMask rfl rfl rfl (by decide +kernel) ⟨by decide, by decide⟩) hK hN hP (q0 := 15) rfl rfl rfl hl.1 rfl (Nat.le_of_ble_eq_true rfl) ⟨by decide, by decide⟩ dX4_resize_94 ?_
      refine rd_callS (As := [.int (gMk n (gSet (gSet (gSet P i 2 y) i 3 z) i 5 (-1)) i)]) (rest := []) ⟨hx, hb, hml, hown, hts⟩ (c_J6_bitCount_0f7a4 l D (gMk n (gSet (gSet (gSet P i 2 y) i 3 z) i 5 (-1)) i)) (va_cwS 1 hts gX4_resize_J6_bitCount_0f7a4 rfl rfl rfl (by decide +kernel) ⟨by decide, by decide⟩) hK hN hP rfl hl.1 rfl (Nat.le_of_ble_eq_true rfl) ⟨by decide, by decide⟩ dX4_resize_97 ?_
      refine lv_asi (y := mOnes (gMk n (gSet (gSet (gSet P i 2 y) i 3 z) i 5 (-1)) i)) (bCt_gMk _ _ _) ?_
      exact wx_iret hx hb hr hlocks hP hS rfl dX4_resize_100 (by exact ⟨_, aPut (n, gSet (gSet (gSet P i 2 y) i 3 z) i 5 (-1)) ((n, P), (q, hs), (b, co)), rfl, by unfold spResize; dsimp only; rw [if_pos c_8, if_pos c_26, ei, ix_n (by omega)], _, _, _, _, _, _, _, _, _, _, _, _, _, _, _, _, _, _, _, _, _, _, _, _, hf5, (clH_save hq6 hn8 hhs hh hf), rfl⟩)
    · exact wx_throw (cls := "java/lang/IllegalArgumentException") (text := "width or height is out of range") (ik := 48) (is := 93) (ic := 52) hx hb hfl hown hlocks htab (hl.1.trans hml.symm) hT hP hS rfl (⟨Or.inr (⟨rfl, by unfold spResize; dsimp only; rw [if_pos c_8, if_neg (bF c_26)]⟩), _, _, _, _, _, _, _, _, _, _, _, _, _, _, _, _, _, _, _, _, _, _, _, _, hf, hh, rfl⟩) (by decide +kernel) (hts (.classLink RX4 48 "java/lang/IllegalArgumentException") (by decide +kernel)) (hts (.initialized "java/lang/IllegalArgumentException") (by decide +kernel)) (by decide) (fun w hw => hts w (List.mem_cons_of_mem _ (List.mem_append_right _ hw))) (by decide +kernel) hT.2.2.1.1 (by decide +kernel) dX4_resize_29 dX4_resize_32 dX4_resize_33 dX4_resize_35 dX4_resize_38 (by decide) (by decide) (by decide) (by decide)
  · exact wx_throw (cls := "java/lang/IndexOutOfBoundsException") (text := "no such point") (ik := 74) (is := 76) (ic := 78) hx hb hfl hown hlocks htab (hl.1.trans hml.symm) hT hP hS rfl (⟨Or.inl ⟨rfl, by unfold spResize; dsimp only; rw [if_neg (bF c_8)]⟩, _, _, _, _, _, _, _, _, _, _, _, _, _, _, _, _, _, _, _, _, _, _, _, _, hf, hh, rfl⟩) (by decide +kernel) (hts (.classLink RX4 74 "java/lang/IndexOutOfBoundsException") (by decide +kernel)) (hts (.initialized "java/lang/IndexOutOfBoundsException") (by decide +kernel)) (by decide) (fun w hw => hts w (List.mem_cons_of_mem _ (List.mem_append_left _ (List.mem_append_right _ hw)))) (by decide +kernel) hT.2.2.1.2.2.1 (by decide +kernel) dX4_resize_11 dX4_resize_14 dX4_resize_15 dX4_resize_17 dX4_resize_20 (by decide) (by decide) (by decide) (by decide)
set_option maxHeartbeats 4000000 in
set_option maxRecDepth 100000 in
theorem c_X4_place (l : Launch) (hfl : l.stackTraces = false) (D : va_G) {ox op xO xW xN xC xA xM xG xT xH xR xF xB xX ob oc oh hc hp ot yc yt : Nat} {cI : ClassId} {cZ : ClassId} {n q b : Nat} {P : Nat → Nat → Int32} {kn kS kF kT rg pa vl : Int32} {aO aW aN aC aA aM aG aT aH aR aF aB aX f zf zn co td : Nat → Int32} {hs : Nat → BS} (hA : aOK ((n, P), (q, hs), (b, co))) (hf : clB n P f) (hh : clH q hs zf zn) (x y : Int32) : wx_M l yX4_place wsX4_place ({ frames := 6, cells := 1, slots := 6, locals := 118 } : Room) D (ClW ox op xO xW xN xC xA xM xG xT xH xR xF xB xX ob oc oh hc hp ot yc yt cI cZ kn aO aW aN aC aA kS aM aG aT aH aR aF kF aB kT aX (nI n) f (nI q) zf zn co (nI b) td rg pa vl) [(cI, .int), (cZ, .boolean)] [.ref ox, .int x, .int y] (fun v w9 => ∃ (r9 : Int32) (A9 : AS), v = some (.int r9) ∧ spPlace ((n, P), (q, hs), (b, co)) x y = (0, r9, A9) ∧ ClP ox op xO xW xN xC xA xM xG xT xH xR xF xB xX ob oc oh hc hp ot yc yt cI cZ A9 w9) (fun E w9 => ((E = "java/lang/IndexOutOfBoundsException" ∧ spPlace ((n, P), (q, hs), (b, co)) x y = (1, 0, ((n, P), (q, hs), (b, co)))) ∨ (E = "java/lang/IllegalArgumentException" ∧ spPlace ((n, P), (q, hs), (b, co)) x y = (2, 0, ((n, P), (q, hs), (b, co)))) ∨ (E = "java/lang/IllegalStateException" ∧ spPlace ((n, P), (q, hs), (b, co)) x y = (3, 0, ((n, P), (q, hs), (b, co))))) ∧ ClP ox op xO xW xN xC xA xM xG xT xH xR xF xB xX ob oc oh hc hp ot yc yt cI cZ ((n, P), (q, hs), (b, co)) w9) := by
  have hn8 : n ≤ 8 := hA.1.1
  have hbk : bd_ok n P := hA.1.2.1
  have hgd : bd_gd n P := hA.1.2.2
  have hq6 : q ≤ 6 := hA.2.1
  have hhs : ∀ j, j < q → (hs j).1 ≤ 8 := fun j hj => (hA.2.2.1 j hj).1
  have hb60 : b ≤ 60 := hA.2.2.2
  refine wx_of (cc := cX4_place) (maxL := 3) (ret := some .int) (by decide) rfl (Nat.le_of_ble_eq_true rfl) ?_
  intro p e s m below meth c hx hb hr hml hts hown hlocks htab hP hK hN hZ hT hD hS ls hl
  have hown : s.vm.findClass RX4 = some m.cls := hown
  have hl : lv_has ls 3 [(0, .ref ox), (1, .int x), (2, .int y)] := hl
  have hinX4 : ∀ w ∈ u_ws RX4 TX4 4, w ∈ wsX4_place := by decide +kernel
  have hw10 := hts (.fieldLink RX4 10 "CornerLabels" "board" "LCornerLabels$Board;") (by decide +kernel)
  have hw19 := hts (.fieldLink RX4 19 "CornerLabels" "history" "LCornerLabels$History;") (by decide +kernel)
  suffices body : ∀ (H : Heap) (locs : List Loc), va_P D vwCl (ClW ox op xO xW xN xC xA xM xG xT xH xR xF xB xX ob oc oh hc hp ot yc yt cI cZ kn aO aW aN aC aA kS aM aG aT aH aR aF kF aB kT aX (nI n) f (nI q) zf zn co (nI b) td rg pa vl) H → va_D (wr_in (ClW ox op xO xW xN xC xA xM xG xT xH xR xF xB xX ob oc oh hc hp ot yc yt cI cZ kn aO aW aN aC aA kS aM aG aT aH aR aF kF aB kT aX (nI n) f (nI q) zf zn co (nI b) td rg pa vl)) (ClW ox op xO xW xN xC xA xM xG xT xH xR xF xB xX ob oc oh hc hp ot yc yt cI cZ kn aO aW aN aC aA kS aM aG aT aH aR aF kF aB kT aX (nI n) f (nI q) zf zn co (nI b) td rg pa vl) → va_S (wr_in (ClW ox op xO xW xN xC xA xM xG xT xH xR xF xB xX ob oc oh hc hp ot yc yt cI cZ kn aO aW aN aC aA kS aM aG aT aH aR aF kF aB kT aX (nI n) f (nI q) zf zn co (nI b) td rg pa vl)) s.heap H locs → wx_W p l e wsX4_place ({ frames := 6, cells := 1, slots := 6, locals := 118 } : Room) s m [.ref ox, .int x, .int y] below meth c D (ClW ox op xO xW xN xC xA xM xG xT xH xR xF xB xX ob oc oh hc hp ot yc yt cI cZ kn aO aW aN aC aA kS aM aG aT aH aR aF kF aB kT aX (nI n) f (nI q) zf zn co (nI b) td rg pa vl) (fun v w9 => ∃ (r9 : Int32) (A9 : AS), v = some (.int r9) ∧ spPlace ((n, P), (q, hs), (b, co)) x y = (0, r9, A9) ∧ ClP ox op xO xW xN xC xA xM xG xT xH xR xF xB xX ob oc oh hc hp ot yc yt cI cZ A9 w9) (fun E w9 => ((E = "java/lang/IndexOutOfBoundsException" ∧ spPlace ((n, P), (q, hs), (b, co)) x y = (1, 0, ((n, P), (q, hs), (b, co)))) ∨ (E = "java/lang/IllegalArgumentException" ∧ spPlace ((n, P), (q, hs), (b, co)) x y = (2, 0, ((n, P), (q, hs), (b, co)))) ∨ (E = "java/lang/IllegalStateException" ∧ spPlace ((n, P), (q, hs), (b, co)) x y = (3, 0, ((n, P), (q, hs), (b, co))))) ∧ ClP ox op xO xW xN xC xA xM xG xT xH xR xF xB xX ob oc oh hc hp ot yc yt cI cZ ((n, P), (q, hs), (b, co)) w9) H locs (F0 m 0 ls []) from body _ _ hP hD hS
  clear hP hD hS
  intro H locs hP hD hS
  refine lv_aload_n hx hb dX4_place_0 rfl (lv_at hl 0 rfl) ?_
  refine va_get (D := D) (ci := 4) (v := .ref ob) (C := RX4) (T := TX4) (N := 4) hx hb hts hinX4 hown hK hP 0 rfl rfl 0 (by decide) hw10 (fun _ h9 => h9) rfl dX4_place_1 ?_
  refine lv_iload_n hx hb dX4_place_4 rfl (lv_at hl 1 rfl) ?_
  have hbd : bd_in (ClW ox op xO xW xN xC xA xM xG xT xH xR xF xB xX ob oc oh hc hp ot yc yt cI cZ kn aO aW aN aC aA kS aM aG aT aH aR aF kF aB kT aX (nI n) f (nI q) zf zn co (nI b) td rg pa vl) [(cI, .int), (cZ, .boolean)] ob n P := ⟨15, 16, 0, oc, cI, f, rfl, rfl, rfl, hn8, hf⟩
  refine rd_callV (As := [.int x]) (rest := []) ⟨hx, hb, hml, hown, hts⟩ (c_X0_has l D hbd x) (cwV 1 hts gX4_place_X0_has rfl rfl rfl (by decide +kernel) ⟨by decide, by decide⟩) hK hN hP (q0 := 15) rfl rfl rfl hl.1 rfl (Nat.le_of_ble_eq_true rfl) ⟨by decide, by decide⟩ dX4_place_5 ?_
  refine rd_ifne_b (tgt := 21) hx hb dX4_place_8 (by decide) (fun c_8 => ?_) (fun c_8 => ?_)
  · obtain ⟨i, hi, ei⟩ := (gHas_iff hn8).mp c_8
    rw [ei] at hl
    have hl : lv_has ls 3 [(0, .ref ox), (1, .int (nI i)), (2, .int y)] := hl
    refine lv_iload_n hx hb dX4_place_21 rfl (lv_at hl 2 rfl) ?_
    refine rd_callS (As := [.int y]) (rest := []) ⟨hx, hb, hml, hown, hts⟩ (c_X4_isCorner l D y) (va_cwS 1 hts gX4_place_X4_isCorner rfl rfl rfl (by decide +kernel) ⟨by decide, by decide⟩) hK hN hP rfl hl.1 rfl (Nat.le_of_ble_eq_true rfl) ⟨by decide, by decide⟩ dX4_place_22 ?_
    refine rd_ifne_b (tgt := 38) hx hb dX4_place_25 (by decide) (fun c_25 => ?_) (fun c_25 => ?_)
    · have hfb : hB (gFr n P i) y = (gOp n P i y && !gCl n P i y) := gFr_hB c_25
      refine lv_aload_n hx hb dX4_place_38 rfl (lv_at hl 0 rfl) ?_
      refine va_get (D := D) (ci := 4) (v := .ref ob) (C := RX4) (T := TX4) (N := 4) hx hb hts hinX4 hown hK hP 0 rfl rfl 0 (by decide) hw10 (fun _ h9 => h9) rfl dX4_place_39 ?_
      refine lv_iload_n hx hb dX4_place_42 rfl (lv_at hl 1 rfl) ?_
      have hbd : bd_in (ClW ox op xO xW xN xC xA xM xG xT xH xR xF xB xX ob oc oh hc hp ot yc yt cI cZ kn aO aW aN aC aA kS aM aG aT aH aR aF kF aB kT aX (nI n) f (nI q) zf zn co (nI b) td rg pa vl) [(cI, .int), (cZ, .boolean)] ob n P := ⟨15, 16, 0, oc, cI, f, rfl, rfl, rfl, hn8, hf⟩
      refine rd_callV (As := [.int (nI i)]) (rest := []) ⟨hx, hb, hml, hown, hts⟩ (c_X0_freeMask l D hbd hi) (cwV 1 hts gX4_place_X0_freeMask rfl rfl rfl (by decide +kernel) ⟨by decide, by decide⟩) hK hN hP (q0 := 15) rfl rfl rfl hl.1 rfl (Nat.le_of_ble_eq_true rfl) ⟨by decide, by decide⟩ dX4_place_43 ?_
      refine lv_iload_n hx hb dX4_place_46 rfl (lv_at hl 2 rfl) ?_
      refine rd_callS (As := [.int (gFr n P i), .int y]) (rest := []) ⟨hx, hb, hml, hown, hts⟩ (c_X4_hasBit l D (gFr n P i) y) (va_cwS 2 hts gX4_place_X4_hasBit rfl rfl rfl (by decide +kernel) ⟨by decide, by decide⟩) hK hN hP rfl hl.1 rfl (Nat.le_of_ble_eq_true rfl) ⟨by decide, by decide⟩ dX4_place_47 ?_
      refine rd_ifne_b (tgt := 63) hx hb dX4_place_50 (by decide) (fun c_50 => ?_) (fun c_50 => ?_)
      · refine lv_aload_n hx hb dX4_place_63 rfl (lv_at hl 0 rfl) ?_
        refine va_get (D := D) (ci := 4) (v := .ref oh) (C := RX4) (T := TX4) (N := 4) hx hb hts hinX4 hown hK hP 0 rfl rfl 1 (by decide) hw19 (fun _ h9 => h9) rfl dX4_place_64 ?_
        refine lv_aload_n hx hb dX4_place_67 rfl (lv_at hl 0 rfl) ?_
        refine va_get (D := D) (ci := 4) (v := .ref ob) (C := RX4) (T := TX4) (N := 4) hx hb hts hinX4 hown hK hP 0 rfl rfl 0 (by decide) hw10 (fun _ h9 => h9) rfl dX4_place_68 ?_
        refine wr_callV (As := [.ref ob]) (rest := []) ⟨hx, hb, hml, hown, hts⟩ (c_X1_save l D (k := q) hq6) (cwV 1 hts gX4_place_X1_save rfl rfl rfl (by decide +kernel) ⟨by decide, by decide⟩) hK hN hZ hP hD hS [17, 18, 19, 15, 16] [0] rfl (by decide) rfl (q0 := 17) rfl rfl rfl hl.1 rfl (Nat.le_of_ble_eq_true rfl) ⟨by decide, by decide⟩ dX4_place_71 (fun v9 w9 H locs hp9 hP hD hS => ?_)
        obtain ⟨rfl, rfl⟩ := hp9
        have hP : va_P D vwCl (ClW ox op xO xW xN xC xA xM xG xT xH xR xF xB xX ob oc oh hc hp ot yc yt cI cZ kn aO aW aN aC aA kS aM aG aT aH aR aF kF aB kT aX (nI n) f (nI ((if q < 6 then q else 5) + 1)) (va_cpy f (if q < 6 then zf else va_cpy zf zf 48 0 240) 0 ((if q < 6 then q else 5) * 48) 48) (upd (if q < 6 then zn else va_cpy zn zn 1 0 5) (if q < 6 then q else 5) (nI n)) co (nI b) td rg pa vl) H := hP
        have hD : va_D (wr_in (ClW ox op xO xW xN xC xA xM xG xT xH xR xF xB xX ob oc oh hc hp ot yc yt cI cZ kn aO aW aN aC aA kS aM aG aT aH aR aF kF aB kT aX (nI n) f (nI q) zf zn co (nI b) td rg pa vl)) (ClW ox op xO xW xN xC xA xM xG xT xH xR xF xB xX ob oc oh hc hp ot yc yt cI cZ kn aO aW aN aC aA kS aM aG aT aH aR aF kF aB kT aX (nI n) f (nI ((if q < 6 then q else 5) + 1)) (va_cpy f (if q < 6 then zf else va_cpy zf zf 48 0 240) 0 ((if q < 6 then q else 5) * 48) 48) (upd (if q < 6 then zn else va_cpy zn zn 1 0 5) (if q < 6 then q else 5) (nI n)) co (nI b) td rg pa vl) := hD
        refine W.eq (g2 := F0 m 74 ls []) rfl ?_
        refine lv_aload_n hx hb dX4_place_74 rfl (lv_at hl 0 rfl) ?_
        refine lv_iload_n hx hb dX4_place_75 rfl (lv_at hl 1 rfl) ?_
        refine lv_iload_n hx hb dX4_place_76 rfl (lv_at hl 2 rfl) ?_
        refine wr_callVF (As := [.int (nI i), .int y]) (rest := []) ⟨hx, hb, hml, hown, hts⟩ (c_X4_putLabel (P := P) l D hn8 hf hi y) (cwV 2 hts gX4_place_X4_putLabel rfl rfl rfl (by decide +kernel) ⟨by decide, by decide⟩) hK hN hZ hP hD hS (q0 := 0) rfl rfl rfl hl.1 rfl (Nat.le_of_ble_eq_true rfl) ⟨by decide, by decide⟩ dX4_place_77 (fun v9 w9 H locs hp9 hP hD hS => ?_)
        obtain ⟨rfl, rfl⟩ := hp9
        have hP : va_P D vwCl (ClW ox op xO xW xN xC xA xM xG xT xH xR xF xB xX ob oc oh hc hp ot yc yt cI cZ kn aO aW aN aC aA kS aM aG aT aH aR aF kF aB kT aX (nI n) (upd f (40 + i) y) (nI ((if q < 6 then q else 5) + 1)) (va_cpy f (if q < 6 then zf else va_cpy zf zf 48 0 240) 0 ((if q < 6 then q else 5) * 48) 48) (upd (if q < 6 then zn else va_cpy zn zn 1 0 5) (if q < 6 then q else 5) (nI n)) co (nI b) td rg pa vl) H := hP
        have hD : va_D (wr_in (ClW ox op xO xW xN xC xA xM xG xT xH xR xF xB xX ob oc oh hc hp ot yc yt cI cZ kn aO aW aN aC aA kS aM aG aT aH aR aF kF aB kT aX (nI n) f (nI q) zf zn co (nI b) td rg pa vl)) (ClW ox op xO xW xN xC xA xM xG xT xH xR xF xB xX ob oc oh hc hp ot yc yt cI cZ kn aO aW aN aC aA kS aM aG aT aH aR aF kF aB kT aX (nI n) (upd f (40 + i) y) (nI ((if q < 6 then q else 5) + 1)) (va_cpy f (if q < 6 then zf else va_cpy zf zf 48 0 240) 0 ((if q < 6 then q else 5) * 48) 48) (upd (if q < 6 then zn else va_cpy zn zn 1 0 5) (if q < 6 then q else 5) (nI n)) co (nI b) td rg pa vl) := hD
        refine W.eq (g2 := F0 m 80 ls [.int (P i 5)]) rfl ?_
        exact wx_iret hx hb hr hlocks hP hS rfl dX4_place_80 (by exact ⟨_, aPut (n, gSet P i 5 y) ((n, P), (q, hs), (b, co)), rfl, by rw [hfb] at c_50; unfold spPlace; dsimp only; rw [if_pos c_8, if_pos c_25, ei, ix_n (by omega), if_pos c_50], _, _, _, _, _, _, _, _, _, _, _, _, _, _, _, _, _, _, _, _, _, _, _, _, (clB_set (k := 5) hn8 hi (by decide) hf rfl), (clH_save hq6 hn8 hhs hh hf), rfl⟩)
      · exact wx_throw (cls := "java/lang/IllegalStateException") (text := "the corner is not open, or the label would clash") (ik := 58) (is := 114) (ic := 62) hx hb hfl hown hlocks htab (hl.1.trans hml.symm) hT hP hS rfl (⟨Or.inr (Or.inr (⟨rfl, by rw [hfb] at c_50; unfold spPlace; dsimp only; rw [if_pos c_8, if_pos c_25, ei, ix_n (by omega), if_neg (bF c_50)]⟩)), _, _, _, _, _, _, _, _, _, _, _, _, _, _, _, _, _, _, _, _, _, _, _, _, hf, hh, rfl⟩) (by decide +kernel) (hts (.classLink RX4 58 "java/lang/IllegalStateException") (by decide +kernel)) (hts (.initialized "java/lang/IllegalStateException") (by decide +kernel)) (by decide) (fun w hw => hts w (List.mem_cons_of_mem _ (List.mem_append_right _ hw))) (by decide +kernel) hT.2.2.1.2.1 (by decide +kernel) dX4_place_53 dX4_place_56 dX4_place_57 dX4_place_59 dX4_place_62 (by decide) (by decide) (by decide) (by decide)
    · exact wx_throw (cls := "java/lang/IllegalArgumentException") (text := "corner is out of range") (ik := 48) (is := 106) (ic := 52) hx hb hfl hown hlocks htab (hl.1.trans hml.symm) hT hP hS rfl (⟨Or.inr (Or.inl ⟨rfl, by unfold spPlace; dsimp only; rw [if_pos c_8, if_neg (bF c_25)]⟩), _, _, _, _, _, _, _, _, _, _, _, _, _, _, _, _, _, _, _, _, _, _, _, _, hf, hh, rfl⟩) (by decide +kernel) (hts (.classLink RX4 48 "java/lang/IllegalArgumentException") (by decide +kernel)) (hts (.initialized "java/lang/IllegalArgumentException") (by decide +kernel)) (by decide) (fun w hw => hts w (List.mem_cons_of_mem _ (List.mem_append_left _ (List.mem_append_right _ hw)))) (by decide +kernel) hT.2.2.1.1 (by decide +kernel) dX4_place_28 dX4_place_31 dX4_place_32 dX4_place_34 dX4_place_37 (by decide) (by decide) (by decide) (by decide)
  · exact wx_throw (cls := "java/lang/IndexOutOfBoundsException") (text := "no such point") (ik := 74) (is := 76) (ic := 78) hx hb hfl hown hlocks htab (hl.1.trans hml.symm) hT hP hS rfl (⟨Or.inl ⟨rfl, by unfold spPlace; dsimp only; rw [if_neg (bF c_8)]⟩, _, _, _, _, _, _, _, _, _, _, _, _, _, _, _, _, _, _, _, _, _, _, _, _, hf, hh, rfl⟩) (by decide +kernel) (hts (.classLink RX4 74 "java/lang/IndexOutOfBoundsException") (by decide +kernel)) (hts (.initialized "java/lang/IndexOutOfBoundsException") (by decide +kernel)) (by decide) (fun w hw => hts w (List.mem_cons_of_mem _ (List.mem_append_left _ (List.mem_append_left _ (List.mem_append_right _ hw))))) (by decide +kernel) hT.2.2.1.2.2.1 (by decide +kernel) dX4_place_11 dX4_place_14 dX4_place_15 dX4_place_17 dX4_place_20 (by decide) (by decide) (by decide) (by decide)
set_option maxHeartbeats 4000000 in
set_option maxRecDepth 100000 in
theorem c_X4_drop (l : Launch) (hfl : l.stackTraces = false) (D : va_G) {ox op xO xW xN xC xA xM xG xT xH xR xF xB xX ob oc oh hc hp ot yc yt : Nat} {cI : ClassId} {cZ : ClassId} {n q b : Nat} {P : Nat → Nat → Int32} {kn kS kF kT rg pa vl : Int32} {aO aW aN aC aA aM aG aT aH aR aF aB aX f zf zn co td : Nat → Int32} {hs : Nat → BS} (hA : aOK ((n, P), (q, hs), (b, co))) (hf : clB n P f) (hh : clH q hs zf zn) (x : Int32) : wx_M l yX4_drop wsX4_drop ({ frames := 6, cells := 1, slots := 6, locals := 101 } : Room) D (ClW ox op xO xW xN xC xA xM xG xT xH xR xF xB xX ob oc oh hc hp ot yc yt cI cZ kn aO aW aN aC aA kS aM aG aT aH aR aF kF aB kT aX (nI n) f (nI q) zf zn co (nI b) td rg pa vl) [(cI, .int), (cZ, .boolean)] [.ref ox, .int x] (fun v w9 => ∃ (r9 : Int32) (A9 : AS), v = some (.int r9) ∧ spDrop ((n, P), (q, hs), (b, co)) x = (0, r9, A9) ∧ ClP ox op xO xW xN xC xA xM xG xT xH xR xF xB xX ob oc oh hc hp ot yc yt cI cZ A9 w9) (fun E w9 => ((E = "java/lang/IndexOutOfBoundsException" ∧ spDrop ((n, P), (q, hs), (b, co)) x = (1, 0, ((n, P), (q, hs), (b, co))))) ∧ ClP ox op xO xW xN xC xA xM xG xT xH xR xF xB xX ob oc oh hc hp ot yc yt cI cZ ((n, P), (q, hs), (b, co)) w9) := by
  have hn8 : n ≤ 8 := hA.1.1
  have hbk : bd_ok n P := hA.1.2.1
  have hgd : bd_gd n P := hA.1.2.2
  have hq6 : q ≤ 6 := hA.2.1
  have hhs : ∀ j, j < q → (hs j).1 ≤ 8 := fun j hj => (hA.2.2.1 j hj).1
  have hb60 : b ≤ 60 := hA.2.2.2
  refine wx_of (cc := cX4_drop) (maxL := 2) (ret := some .int) (by decide) rfl (Nat.le_of_ble_eq_true rfl) ?_
  intro p e s m below meth c hx hb hr hml hts hown hlocks htab hP hK hN hZ hT hD hS ls hl
  have hown : s.vm.findClass RX4 = some m.cls := hown
  have hl : lv_has ls 2 [(0, .ref ox), (1, .int x)] := hl
  have hinX4 : ∀ w ∈ u_ws RX4 TX4 4, w ∈ wsX4_drop := by decide +kernel
  have hw10 := hts (.fieldLink RX4 10 "CornerLabels" "board" "LCornerLabels$Board;") (by decide +kernel)
  have hw19 := hts (.fieldLink RX4 19 "CornerLabels" "history" "LCornerLabels$History;") (by decide +kernel)
  suffices body : ∀ (H : Heap) (locs : List Loc), va_P D vwCl (ClW ox op xO xW xN xC xA xM xG xT xH xR xF xB xX ob oc oh hc hp ot yc yt cI cZ kn aO aW aN aC aA kS aM aG aT aH aR aF kF aB kT aX (nI n) f (nI q) zf zn co (nI b) td rg pa vl) H → va_D (wr_in (ClW ox op xO xW xN xC xA xM xG xT xH xR xF xB xX ob oc oh hc hp ot yc yt cI cZ kn aO aW aN aC aA kS aM aG aT aH aR aF kF aB kT aX (nI n) f (nI q) zf zn co (nI b) td rg pa vl)) (ClW ox op xO xW xN xC xA xM xG xT xH xR xF xB xX ob oc oh hc hp ot yc yt cI cZ kn aO aW aN aC aA kS aM aG aT aH aR aF kF aB kT aX (nI n) f (nI q) zf zn co (nI b) td rg pa vl) → va_S (wr_in (ClW ox op xO xW xN xC xA xM xG xT xH xR xF xB xX ob oc oh hc hp ot yc yt cI cZ kn aO aW aN aC aA kS aM aG aT aH aR aF kF aB kT aX (nI n) f (nI q) zf zn co (nI b) td rg pa vl)) s.heap H locs → wx_W p l e wsX4_drop ({ frames := 6, cells := 1, slots := 6, locals := 101 } : Room) s m [.ref ox, .int x] below meth c D (ClW ox op xO xW xN xC xA xM xG xT xH xR xF xB xX ob oc oh hc hp ot yc yt cI cZ kn aO aW aN aC aA kS aM aG aT aH aR aF kF aB kT aX (nI n) f (nI q) zf zn co (nI b) td rg pa vl) (fun v w9 => ∃ (r9 : Int32) (A9 : AS), v = some (.int r9) ∧ spDrop ((n, P), (q, hs), (b, co)) x = (0, r9, A9) ∧ ClP ox op xO xW xN xC xA xM xG xT xH xR xF xB xX ob oc oh hc hp ot yc yt cI cZ A9 w9) (fun E w9 => ((E = "java/lang/IndexOutOfBoundsException" ∧ spDrop ((n, P), (q, hs), (b, co)) x = (1, 0, ((n, P), (q, hs), (b, co))))) ∧ ClP ox op xO xW xN xC xA xM xG xT xH xR xF xB xX ob oc oh hc hp ot yc yt cI cZ ((n, P), (q, hs), (b, co)) w9) H locs (F0 m 0 ls []) from body _ _ hP hD hS
  clear hP hD hS
  intro H locs hP hD hS
  refine lv_aload_n hx hb dX4_drop_0 rfl (lv_at hl 0 rfl) ?_
  refine va_get (D := D) (ci := 4) (v := .ref ob) (C := RX4) (T := TX4) (N := 4) hx hb hts hinX4 hown hK hP 0 rfl rfl 0 (by decide) hw10 (fun _ h9 => h9) rfl dX4_drop_1 ?_
  refine lv_iload_n hx hb dX4_drop_4 rfl (lv_at hl 1 rfl) ?_
  have hbd : bd_in (ClW ox op xO xW xN xC xA xM xG xT xH xR xF xB xX ob oc oh hc hp ot yc yt cI cZ kn aO aW aN aC aA kS aM aG aT aH aR aF kF aB kT aX (nI n) f (nI q) zf zn co (nI b) td rg pa vl) [(cI, .int), (cZ, .boolean)] ob n P := ⟨15, 16, 0, oc, cI, f, rfl, rfl, rfl, hn8, hf⟩
  refine rd_callV (As := [.int x]) (rest := []) ⟨hx, hb, hml, hown, hts⟩ (c_X0_has l D hbd x) (cwV 1 hts gX4_drop_X0_has rfl rfl rfl (by decide +kernel) ⟨by decide, by decide⟩) hK hN hP (q0 := 15) rfl rfl rfl hl.1 rfl (Nat.le_of_ble_eq_true rfl) ⟨by decide, by decide⟩ dX4_drop_5 ?_
  refine rd_ifne_b (tgt := 21) hx hb dX4_drop_8 (by decide) (fun c_8 => ?_) (fun c_8 => ?_)
  · obtain ⟨i, hi, ei⟩ := (gHas_iff hn8).mp c_8
    rw [ei] at hl
    have hl : lv_has ls 2 [(0, .ref ox), (1, .int (nI i))] := hl
    refine lv_aload_n hx hb dX4_drop_21 rfl (lv_at hl 0 rfl) ?_
    refine va_get (D := D) (ci := 4) (v := .ref oh) (C := RX4) (T := TX4) (N := 4) hx hb hts hinX4 hown hK hP 0 rfl rfl 1 (by decide) hw19 (fun _ h9 => h9) rfl dX4_drop_22 ?_
    refine lv_aload_n hx hb dX4_drop_25 rfl (lv_at hl 0 rfl) ?_
    refine va_get (D := D) (ci := 4) (v := .ref ob) (C := RX4) (T := TX4) (N := 4) hx hb hts hinX4 hown hK hP 0 rfl rfl 0 (by decide) hw10 (fun _ h9 => h9) rfl dX4_drop_26 ?_
    refine wr_callV (As := [.ref ob]) (rest := []) ⟨hx, hb, hml, hown, hts⟩ (c_X1_save l D (k := q) hq6) (cwV 1 hts gX4_drop_X1_save rfl rfl rfl (by decide +kernel) ⟨by decide, by decide⟩) hK hN hZ hP hD hS [17, 18, 19, 15, 16] [0] rfl (by decide) rfl (q0 := 17) rfl rfl rfl hl.1 rfl (Nat.le_of_ble_eq_true rfl) ⟨by decide, by decide⟩ dX4_drop_29 (fun v9 w9 H locs hp9 hP hD hS => ?_)
    obtain ⟨rfl, rfl⟩ := hp9
    have hP : va_P D vwCl (ClW ox op xO xW xN xC xA xM xG xT xH xR xF xB xX ob oc oh hc hp ot yc yt cI cZ kn aO aW aN aC aA kS aM aG aT aH aR aF kF aB kT aX (nI n) f (nI ((if q < 6 then q else 5) + 1)) (va_cpy f (if q < 6 then zf else va_cpy zf zf 48 0 240) 0 ((if q < 6 then q else 5) * 48) 48) (upd (if q < 6 then zn else va_cpy zn zn 1 0 5) (if q < 6 then q else 5) (nI n)) co (nI b) td rg pa vl) H := hP
    have hD : va_D (wr_in (ClW ox op xO xW xN xC xA xM xG xT xH xR xF xB xX ob oc oh hc hp ot yc yt cI cZ kn aO aW aN aC aA kS aM aG aT aH aR aF kF aB kT aX (nI n) f (nI q) zf zn co (nI b) td rg pa vl)) (ClW ox op xO xW xN xC xA xM xG xT xH xR xF xB xX ob oc oh hc hp ot yc yt cI cZ kn aO aW aN aC aA kS aM aG aT aH aR aF kF aB kT aX (nI n) f (nI ((if q < 6 then q else 5) + 1)) (va_cpy f (if q < 6 then zf else va_cpy zf zf 48 0 240) 0 ((if q < 6 then q else 5) * 48) 48) (upd (if q < 6 then zn else va_cpy zn zn 1 0 5) (if q < 6 then q else 5) (nI n)) co (nI b) td rg pa vl) := hD
    refine W.eq (g2 := F0 m 32 ls []) rfl ?_
    refine lv_aload_n hx hb dX4_drop_32 rfl (lv_at hl 0 rfl) ?_
    refine lv_iload_n hx hb dX4_drop_33 rfl (lv_at hl 1 rfl) ?_
    refine lv_iconst (v := (-1)) hx hb dX4_drop_34 (by decide) ?_
    refine wr_callVF (As := [.int (nI i), .int (-1)]) (rest := []) ⟨hx, hb, hml, hown, hts⟩ (c_X4_putLabel (P := P) l D hn8 hf hi (-1)) (cwV 2 hts gX4_drop_X4_putLabel rfl rfl rfl (by decide +kernel) ⟨by decide, by decide⟩) hK hN hZ hP hD hS (q0 := 0) rfl rfl rfl hl.1 rfl (Nat.le_of_ble_eq_true rfl) ⟨by decide, by decide⟩ dX4_drop_35 (fun v9 w9 H locs hp9 hP hD hS => ?_)
    obtain ⟨rfl, rfl⟩ := hp9
    have hP : va_P D vwCl (ClW ox op xO xW xN xC xA xM xG xT xH xR xF xB xX ob oc oh hc hp ot yc yt cI cZ kn aO aW aN aC aA kS aM aG aT aH aR aF kF aB kT aX (nI n) (upd f (40 + i) (-1)) (nI ((if q < 6 then q else 5) + 1)) (va_cpy f (if q < 6 then zf else va_cpy zf zf 48 0 240) 0 ((if q < 6 then q else 5) * 48) 48) (upd (if q < 6 then zn else va_cpy zn zn 1 0 5) (if q < 6 then q else 5) (nI n)) co (nI b) td rg pa vl) H := hP
    have hD : va_D (wr_in (ClW ox op xO xW xN xC xA xM xG xT xH xR xF xB xX ob oc oh hc hp ot yc yt cI cZ kn aO aW aN aC aA kS aM aG aT aH aR aF kF aB kT aX (nI n) f (nI q) zf zn co (nI b) td rg pa vl)) (ClW ox op xO xW xN xC xA xM xG xT xH xR xF xB xX ob oc oh hc hp ot yc yt cI cZ kn aO aW aN aC aA kS aM aG aT aH aR aF kF aB kT aX (nI n) (upd f (40 + i) (-1)) (nI ((if q < 6 then q else 5) + 1)) (va_cpy f (if q < 6 then zf else va_cpy zf zf 48 0 240) 0 ((if q < 6 then q else 5) * 48) 48) (upd (if q < 6 then zn else va_cpy zn zn 1 0 5) (if q < 6 then q else 5) (nI n)) co (nI b) td rg pa vl) := hD
    refine W.eq (g2 := F0 m 38 ls [.int (P i 5)]) rfl ?_
    exact wx_iret hx hb hr hlocks hP hS rfl dX4_drop_38 (by exact ⟨_, aPut (n, gSet P i 5 (-1)) ((n, P), (q, hs), (b, co)), rfl, by unfold spDrop; dsimp only; rw [if_pos c_8, ei, ix_n (by omega)], _, _, _, _, _, _, _, _, _, _, _, _, _, _, _, _, _, _, _, _, _, _, _, _, (clB_set (k := 5) hn8 hi (by decide) hf rfl), (clH_save hq6 hn8 hhs hh hf), rfl⟩)
  · exact wx_throw (cls := "java/lang/IndexOutOfBoundsException") (text := "no such point") (ik := 74) (is := 76) (ic := 78) hx hb hfl hown hlocks htab (hl.1.trans hml.symm) hT hP hS rfl (⟨⟨rfl, by unfold spDrop; dsimp only; rw [if_neg (bF c_8)]⟩, _, _, _, _, _, _, _, _, _, _, _, _, _, _, _, _, _, _, _, _, _, _, _, _, hf, hh, rfl⟩) (by decide +kernel) (hts (.classLink RX4 74 "java/lang/IndexOutOfBoundsException") (by decide +kernel)) (hts (.initialized "java/lang/IndexOutOfBoundsException") (by decide +kernel)) (by decide) (fun w hw => hts w (List.mem_cons_of_mem _ (List.mem_append_right _ hw))) (by decide +kernel) hT.2.2.1.2.2.1 (by decide +kernel) dX4_drop_11 dX4_drop_14 dX4_drop_15 dX4_drop_17 dX4_drop_20 (by decide) (by decide) (by decide) (by decide)
set_option maxHeartbeats 4000000 in
set_option maxRecDepth 100000 in
theorem c_X4_remove (l : Launch) (hfl : l.stackTraces = false) (D : va_G) {ox op xO xW xN xC xA xM xG xT xH xR xF xB xX ob oc oh hc hp ot yc yt : Nat} {cI : ClassId} {cZ : ClassId} {n q b : Nat} {P : Nat → Nat → Int32} {kn kS kF kT rg pa vl : Int32} {aO aW aN aC aA aM aG aT aH aR aF aB aX f zf zn co td : Nat → Int32} {hs : Nat → BS} (hA : aOK ((n, P), (q, hs), (b, co))) (hf : clB n P f) (hh : clH q hs zf zn) (x : Int32) : wx_M l yX4_remove wsX4_remove ({ frames := 6, cells := 1, slots := 6, locals := 101 } : Room) D (ClW ox op xO xW xN xC xA xM xG xT xH xR xF xB xX ob oc oh hc hp ot yc yt cI cZ kn aO aW aN aC aA kS aM aG aT aH aR aF kF aB kT aX (nI n) f (nI q) zf zn co (nI b) td rg pa vl) [(cI, .int), (cZ, .boolean)] [.ref ox, .int x] (fun v w9 => ∃ (r9 : Int32) (A9 : AS), v = some (.int r9) ∧ spRemove ((n, P), (q, hs), (b, co)) x = (0, r9, A9) ∧ ClP ox op xO xW xN xC xA xM xG xT xH xR xF xB xX ob oc oh hc hp ot yc yt cI cZ A9 w9) (fun E w9 => ((E = "java/lang/IndexOutOfBoundsException" ∧ spRemove ((n, P), (q, hs), (b, co)) x = (1, 0, ((n, P), (q, hs), (b, co))))) ∧ ClP ox op xO xW xN xC xA xM xG xT xH xR xF xB xX ob oc oh hc hp ot yc yt cI cZ ((n, P), (q, hs), (b, co)) w9) := by
  have hn8 : n ≤ 8 := hA.1.1
  have hbk : bd_ok n P := hA.1.2.1
  have hgd : bd_gd n P := hA.1.2.2
  have hq6 : q ≤ 6 := hA.2.1
  have hhs : ∀ j, j < q → (hs j).1 ≤ 8 := fun j hj => (hA.2.2.1 j hj).1
  have hb60 : b ≤ 60 := hA.2.2.2
  refine wx_of (cc := cX4_remove) (maxL := 3) (ret := some .int) (by decide) rfl (Nat.le_of_ble_eq_true rfl) ?_
  intro p e s m below meth c hx hb hr hml hts hown hlocks htab hP hK hN hZ hT hD hS ls hl
  have hown : s.vm.findClass RX4 = some m.cls := hown
  have hl : lv_has ls 3 [(0, .ref ox), (1, .int x)] := hl
  have hinX4 : ∀ w ∈ u_ws RX4 TX4 4, w ∈ wsX4_remove := by decide +kernel
  have hw10 := hts (.fieldLink RX4 10 "CornerLabels" "board" "LCornerLabels$Board;") (by decide +kernel)
  have hw19 := hts (.fieldLink RX4 19 "CornerLabels" "history" "LCornerLabels$History;") (by decide +kernel)
  suffices body : ∀ (H : Heap) (locs : List Loc), va_P D vwCl (ClW ox op xO xW xN xC xA xM xG xT xH xR xF xB xX ob oc oh hc hp ot yc yt cI cZ kn aO aW aN aC aA kS aM aG aT aH aR aF kF aB kT aX (nI n) f (nI q) zf zn co (nI b) td rg pa vl) H → va_D (wr_in (ClW ox op xO xW xN xC xA xM xG xT xH xR xF xB xX ob oc oh hc hp ot yc yt cI cZ kn aO aW aN aC aA kS aM aG aT aH aR aF kF aB kT aX (nI n) f (nI q) zf zn co (nI b) td rg pa vl)) (ClW ox op xO xW xN xC xA xM xG xT xH xR xF xB xX ob oc oh hc hp ot yc yt cI cZ kn aO aW aN aC aA kS aM aG aT aH aR aF kF aB kT aX (nI n) f (nI q) zf zn co (nI b) td rg pa vl) → va_S (wr_in (ClW ox op xO xW xN xC xA xM xG xT xH xR xF xB xX ob oc oh hc hp ot yc yt cI cZ kn aO aW aN aC aA kS aM aG aT aH aR aF kF aB kT aX (nI n) f (nI q) zf zn co (nI b) td rg pa vl)) s.heap H locs → wx_W p l e wsX4_remove ({ frames := 6, cells := 1, slots := 6, locals := 101 } : Room) s m [.ref ox, .int x] below meth c D (ClW ox op xO xW xN xC xA xM xG xT xH xR xF xB xX ob oc oh hc hp ot yc yt cI cZ kn aO aW aN aC aA kS aM aG aT aH aR aF kF aB kT aX (nI n) f (nI q) zf zn co (nI b) td rg pa vl) (fun v w9 => ∃ (r9 : Int32) (A9 : AS), v = some (.int r9) ∧ spRemove ((n, P), (q, hs), (b, co)) x = (0, r9, A9) ∧ ClP ox op xO xW xN xC xA xM xG xT xH xR xF xB xX ob oc oh hc hp ot yc yt cI cZ A9 w9) (fun E w9 => ((E = "java/lang/IndexOutOfBoundsException" ∧ spRemove ((n, P), (q, hs), (b, co)) x = (1, 0, ((n, P), (q, hs), (b, co))))) ∧ ClP ox op xO xW xN xC xA xM xG xT xH xR xF xB xX ob oc oh hc hp ot yc yt cI cZ ((n, P), (q, hs), (b, co)) w9) H locs (F0 m 0 ls []) from body _ _ hP hD hS
  clear hP hD hS
  intro H locs hP hD hS
  refine lv_aload_n hx hb dX4_remove_0 rfl (lv_at hl 0 rfl) ?_
  refine va_get (D := D) (ci := 4) (v := .ref ob) (C := RX4) (T := TX4) (N := 4) hx hb hts hinX4 hown hK hP 0 rfl rfl 0 (by decide) hw10 (fun _ h9 => h9) rfl dX4_remove_1 ?_
  refine lv_iload_n hx hb dX4_remove_4 rfl (lv_at hl 1 rfl) ?_
  have hbd : bd_in (ClW ox op xO xW xN xC xA xM xG xT xH xR xF xB xX ob oc oh hc hp ot yc yt cI cZ kn aO aW aN aC aA kS aM aG aT aH aR aF kF aB kT aX (nI n) f (nI q) zf zn co (nI b) td rg pa vl) [(cI, .int), (cZ, .boolean)] ob n P := ⟨15, 16, 0, oc, cI, f, rfl, rfl, rfl, hn8, hf⟩
  refine rd_callV (As := [.int x]) (rest := []) ⟨hx, hb, hml, hown, hts⟩ (c_X0_has l D hbd x) (cwV 1 hts gX4_remove_X0_has rfl rfl rfl (by decide +kernel) ⟨by decide, by decide⟩) hK hN hP (q0 := 15) rfl rfl rfl hl.1 rfl (Nat.le_of_ble_eq_true rfl) ⟨by decide, by decide⟩ dX4_remove_5 ?_
  refine rd_ifne_b (tgt := 21) hx hb dX4_remove_8 (by decide) (fun c_8 => ?_) (fun c_8 => ?_)
  · obtain ⟨i, hi, ei⟩ := (gHas_iff hn8).mp c_8
    rw [ei] at hl
    have hl : lv_has ls 3 [(0, .ref ox), (1, .int (nI i))] := hl
    refine lv_aload_n hx hb dX4_remove_21 rfl (lv_at hl 0 rfl) ?_
    refine va_get (D := D) (ci := 4) (v := .ref oh) (C := RX4) (T := TX4) (N := 4) hx hb hts hinX4 hown hK hP 0 rfl rfl 1 (by decide) hw19 (fun _ h9 => h9) rfl dX4_remove_22 ?_
    refine lv_aload_n hx hb dX4_remove_25 rfl (lv_at hl 0 rfl) ?_
    refine va_get (D := D) (ci := 4) (v := .ref ob) (C := RX4) (T := TX4) (N := 4) hx hb hts hinX4 hown hK hP 0 rfl rfl 0 (by decide) hw10 (fun _ h9 => h9) rfl dX4_remove_26 ?_
    refine wr_callV (As := [.ref ob]) (rest := []) ⟨hx, hb, hml, hown, hts⟩ (c_X1_save l D (k := q) hq6) (cwV 1 hts gX4_remove_X1_save rfl rfl rfl (by decide +kernel) ⟨by decide, by decide⟩) hK hN hZ hP hD hS [17, 18, 19, 15, 16] [0] rfl (by decide) rfl (q0 := 17) rfl rfl rfl hl.1 rfl (Nat.le_of_ble_eq_true rfl) ⟨by decide, by decide⟩ dX4_remove_29 (fun v9 w9 H locs hp9 hP hD hS => ?_)
    obtain ⟨rfl, rfl⟩ := hp9
    have hP : va_P D vwCl (ClW ox op xO xW xN xC xA xM xG xT xH xR xF xB xX ob oc oh hc hp ot yc yt cI cZ kn aO aW aN aC aA kS aM aG aT aH aR aF kF aB kT aX (nI n) f (nI ((if q < 6 then q else 5) + 1)) (va_cpy f (if q < 6 then zf else va_cpy zf zf 48 0 240) 0 ((if q < 6 then q else 5) * 48) 48) (upd (if q < 6 then zn else va_cpy zn zn 1 0 5) (if q < 6 then q else 5) (nI n)) co (nI b) td rg pa vl) H := hP
    have hD : va_D (wr_in (ClW ox op xO xW xN xC xA xM xG xT xH xR xF xB xX ob oc oh hc hp ot yc yt cI cZ kn aO aW aN aC aA kS aM aG aT aH aR aF kF aB kT aX (nI n) f (nI q) zf zn co (nI b) td rg pa vl)) (ClW ox op xO xW xN xC xA xM xG xT xH xR xF xB xX ob oc oh hc hp ot yc yt cI cZ kn aO aW aN aC aA kS aM aG aT aH aR aF kF aB kT aX (nI n) f (nI ((if q < 6 then q else 5) + 1)) (va_cpy f (if q < 6 then zf else va_cpy zf zf 48 0 240) 0 ((if q < 6 then q else 5) * 48) 48) (upd (if q < 6 then zn else va_cpy zn zn 1 0 5) (if q < 6 then q else 5) (nI n)) co (nI b) td rg pa vl) := hD
    refine W.eq (g2 := F0 m 32 ls []) rfl ?_
    refine lv_aload_n hx hb dX4_remove_32 rfl (lv_at hl 0 rfl) ?_
    refine va_get (D := D) (ci := 4) (v := .ref ob) (C := RX4) (T := TX4) (N := 4) hx hb hts hinX4 hown hK hP 0 rfl rfl 0 (by decide) hw10 (fun _ h9 => h9) rfl dX4_remove_33 ?_
    refine lv_iload_n hx hb dX4_remove_36 rfl (lv_at hl 1 rfl) ?_
    have hbd : bd_in (ClW ox op xO xW xN xC xA xM xG xT xH xR xF xB xX ob oc oh hc hp ot yc yt cI cZ kn aO aW aN aC aA kS aM aG aT aH aR aF kF aB kT aX (nI n) f (nI ((if q < 6 then q else 5) + 1)) (va_cpy f (if q < 6 then zf else va_cpy zf zf 48 0 240) 0 ((if q < 6 then q else 5) * 48) 48) (upd (if q < 6 then zn else va_cpy zn zn 1 0 5) (if q < 6 then q else 5) (nI n)) co (nI b) td rg pa vl) [(cI, .int), (cZ, .boolean)] ob n P := ⟨15, 16, 0, oc, cI, f, rfl, rfl, rfl, hn8, hf⟩
    refine rd_callV (As := [.int (nI i)]) (rest := []) ⟨hx, hb, hml, hown, hts⟩ (c_X0_openCornersBeside l D hbd (nI i)) (cwV 1 hts gX4_remove_X0_openCornersBeside rfl rfl rfl (by decide +kernel) ⟨by decide, by decide⟩) hK hN hP (q0 := 15) rfl rfl rfl hl.1 rfl (Nat.le_of_ble_eq_true rfl) ⟨by decide, by decide⟩ dX4_remove_37 ?_
    refine lv_istore_n (lv' := [(2, .int (mOM n P (nI i))), (0, .ref ox), (1, .int (nI i))]) hx hb dX4_remove_40 rfl hl (by decide) rfl (fun ls hl => ?_)
    refine lv_aload_n hx hb dX4_remove_41 rfl (lv_at hl 1 rfl) ?_
    refine va_get (D := D) (ci := 4) (v := .ref ob) (C := RX4) (T := TX4) (N := 4) hx hb hts hinX4 hown hK hP 0 rfl rfl 0 (by decide) hw10 (fun _ h9 => h9) rfl dX4_remove_42 ?_
    refine lv_iload_n hx hb dX4_remove_45 rfl (lv_at hl 2 rfl) ?_
    refine wr_callV (As := [.int (nI i)]) (rest := []) ⟨hx, hb, hml, hown, hts⟩ (c_X0_takeOut2 l D hn8 hi hf) (cwV 1 hts gX4_remove_X0_takeOut rfl rfl rfl (by decide +kernel) ⟨by decide, by decide⟩) hK hN hZ hP hD hS [15, 16] [0] rfl (by decide) rfl (q0 := 15) rfl rfl rfl hl.1 rfl (Nat.le_of_ble_eq_true rfl) ⟨by decide, by decide⟩ dX4_remove_46 (fun v9 w9 H locs hp9 hP hD hS => ?_)
    obtain hp9 := hp9
    obtain ⟨rfl, f9, rfl, hf9⟩ := hp9
    have hP : va_P D vwCl (ClW ox op xO xW xN xC xA xM xG xT xH xR xF xB xX ob oc oh hc hp ot yc yt cI cZ kn aO aW aN aC aA kS aM aG aT aH aR aF kF aB kT aX (nI (n - 1)) f9 (nI ((if q < 6 then q else 5) + 1)) (va_cpy f (if q < 6 then zf else va_cpy zf zf 48 0 240) 0 ((if q < 6 then q else 5) * 48) 48) (upd (if q < 6 then zn else va_cpy zn zn 1 0 5) (if q < 6 then q else 5) (nI n)) co (nI b) td rg pa vl) H := hP
    have hD : va_D (wr_in (ClW ox op xO xW xN xC xA xM xG xT xH xR xF xB xX ob oc oh hc hp ot yc yt cI cZ kn aO aW aN aC aA kS aM aG aT aH aR aF kF aB kT aX (nI n) f (nI q) zf zn co (nI b) td rg pa vl)) (ClW ox op xO xW xN xC xA xM xG xT xH xR xF xB xX ob oc oh hc hp ot yc yt cI cZ kn aO aW aN aC aA kS aM aG aT aH aR aF kF aB kT aX (nI (n - 1)) f9 (nI ((if q < 6 then q else 5) + 1)) (va_cpy f (if q < 6 then zf else va_cpy zf zf 48 0 240) 0 ((if q < 6 then q else 5) * 48) 48) (upd (if q < 6 then zn else va_cpy zn zn 1 0 5) (if q < 6 then q else 5) (nI n)) co (nI b) td rg pa vl) := hD
    refine W.eq (g2 := F0 m 49 ls []) rfl ?_
    refine lv_aload_n hx hb dX4_remove_49 rfl (lv_at hl 1 rfl) ?_
    refine va_get (D := D) (ci := 4) (v := .ref ob) (C := RX4) (T := TX4) (N := 4) hx hb hts hinX4 hown hK hP 0 rfl rfl 0 (by decide) hw10 (fun _ h9 => h9) rfl dX4_remove_50 ?_
    refine lv_iconst (v := (-1)) hx hb dX4_remove_53 (by decide) ?_
    have hbd : bd_in (ClW ox op xO xW xN xC xA xM xG xT xH xR xF xB xX ob oc oh hc hp ot yc yt cI cZ kn aO aW aN aC aA kS aM aG aT aH aR aF kF aB kT aX (nI (n - 1)) f9 (nI ((if q < 6 then q else 5) + 1)) (va_cpy f (if q < 6 then zf else va_cpy zf zf 48 0 240) 0 ((if q < 6 then q else 5) * 48) 48) (upd (if q < 6 then zn else va_cpy zn zn 1 0 5) (if q < 6 then q else 5) (nI n)) co (nI b) td rg pa vl) [(cI, .int), (cZ, .boolean)] ob (n - 1) (gOut P i) := ⟨15, 16, 0, oc, cI, f9, rfl, rfl, rfl, (by omega), hf9⟩
    refine rd_callV (As := [.int (-1)]) (rest := []) ⟨hx, hb, hml, hown, hts⟩ (c_X0_openCornersBeside l D hbd (-1)) (cwV 1 hts gX4_remove_X0_openCornersBeside rfl rfl rfl (by decide +kernel) ⟨by decide, by decide⟩) hK hN hP (q0 := 15) rfl rfl rfl hl.1 rfl (Nat.le_of_ble_eq_true rfl) ⟨by decide, by decide⟩ dX4_remove_54 ?_
    refine lv_iload_n hx hb dX4_remove_57 rfl (lv_at hl 0 rfl) ?_
    refine lv_isub hx hb dX4_remove_58 ?_
    exact wx_iret hx hb hr hlocks hP hS rfl dX4_remove_59 (by exact ⟨_, aPut (n - 1, gOut P i) ((n, P), (q, hs), (b, co)), rfl, by unfold spRemove; dsimp only; rw [if_pos c_8, ei, ix_n (by omega)], _, _, _, _, _, _, _, _, _, _, _, _, _, _, _, _, _, _, _, _, _, _, _, _, hf9, (clH_save hq6 hn8 hhs hh hf), rfl⟩)
  · exact wx_throw (cls := "java/lang/IndexOutOfBoundsException") (text := "no such point") (ik := 74) (is := 76) (ic := 78) hx hb hfl hown hlocks htab (hl.1.trans hml.symm) hT hP hS rfl (⟨⟨rfl, by unfold spRemove; dsimp only; rw [if_neg (bF c_8)]⟩, _, _, _, _, _, _, _, _, _, _, _, _, _, _, _, _, _, _, _, _, _, _, _, _, hf, hh, rfl⟩) (by decide +kernel) (hts (.classLink RX4 74 "java/lang/IndexOutOfBoundsException") (by decide +kernel)) (hts (.initialized "java/lang/IndexOutOfBoundsException") (by decide +kernel)) (by decide) (fun w hw => hts w (List.mem_cons_of_mem _ (List.mem_append_right _ hw))) (by decide +kernel) hT.2.2.1.2.2.1 (by decide +kernel) dX4_remove_11 dX4_remove_14 dX4_remove_15 dX4_remove_17 dX4_remove_20 (by decide) (by decide) (by decide) (by decide)
set_option maxHeartbeats 4000000 in
set_option maxRecDepth 100000 in
theorem c_X4_add (l : Launch) (hfl : l.stackTraces = false) (D : va_G) {ox op xO xW xN xC xA xM xG xT xH xR xF xB xX ob oc oh hc hp ot yc yt : Nat} {cI : ClassId} {cZ : ClassId} {n q b : Nat} {P : Nat → Nat → Int32} {kn kS kF kT rg pa vl : Int32} {aO aW aN aC aA aM aG aT aH aR aF aB aX f zf zn co td : Nat → Int32} {hs : Nat → BS} (hA : aOK ((n, P), (q, hs), (b, co))) (hf : clB n P f) (hh : clH q hs zf zn) (x y wd hg wt : Int32) : wx_M l yX4_add wsX4_add ({ frames := 6, cells := 1, slots := 6, locals := 101 } : Room) D (ClW ox op xO xW xN xC xA xM xG xT xH xR xF xB xX ob oc oh hc hp ot yc yt cI cZ kn aO aW aN aC aA kS aM aG aT aH aR aF kF aB kT aX (nI n) f (nI q) zf zn co (nI b) td rg pa vl) [(cI, .int), (cZ, .boolean)] [.ref ox, .int x, .int y, .int wd, .int hg, .int wt] (fun v w9 => ∃ (r9 : Int32) (A9 : AS), v = some (.int r9) ∧ spAdd ((n, P), (q, hs), (b, co)) x y wd hg wt = (0, r9, A9) ∧ ClP ox op xO xW xN xC xA xM xG xT xH xR xF xB xX ob oc oh hc hp ot yc yt cI cZ A9 w9) (fun E w9 => ((E = "java/lang/IllegalArgumentException" ∧ spAdd ((n, P), (q, hs), (b, co)) x y wd hg wt = (1, 0, ((n, P), (q, hs), (b, co)))) ∨ (E = "java/lang/IllegalStateException" ∧ spAdd ((n, P), (q, hs), (b, co)) x y wd hg wt = (2, 0, ((n, P), (q, hs), (b, co))))) ∧ ClP ox op xO xW xN xC xA xM xG xT xH xR xF xB xX ob oc oh hc hp ot yc yt cI cZ ((n, P), (q, hs), (b, co)) w9) := by
  have hn8 : n ≤ 8 := hA.1.1
  have hbk : bd_ok n P := hA.1.2.1
  have hgd : bd_gd n P := hA.1.2.2
  have hq6 : q ≤ 6 := hA.2.1
  have hhs : ∀ j, j < q → (hs j).1 ≤ 8 := fun j hj => (hA.2.2.1 j hj).1
  have hb60 : b ≤ 60 := hA.2.2.2
  refine wx_of (cc := cX4_add) (maxL := 6) (ret := some .int) (by decide) rfl (Nat.le_of_ble_eq_true rfl) ?_
  intro p e s m below meth c hx hb hr hml hts hown hlocks htab hP hK hN hZ hT hD hS ls hl
  have hown : s.vm.findClass RX4 = some m.cls := hown
  have hl : lv_has ls 6 [(0, .ref ox), (1, .int x), (2, .int y), (3, .int wd), (4, .int hg), (5, .int wt)] := hl
  have hinX4 : ∀ w ∈ u_ws RX4 TX4 4, w ∈ wsX4_add := by decide +kernel
  have hw10 := hts (.fieldLink RX4 10 "CornerLabels" "board" "LCornerLabels$Board;") (by decide +kernel)
  have hw19 := hts (.fieldLink RX4 19 "CornerLabels" "history" "LCornerLabels$History;") (by decide +kernel)
  suffices body : ∀ (H : Heap) (locs : List Loc), va_P D vwCl (ClW ox op xO xW xN xC xA xM xG xT xH xR xF xB xX ob oc oh hc hp ot yc yt cI cZ kn aO aW aN aC aA kS aM aG aT aH aR aF kF aB kT aX (nI n) f (nI q) zf zn co (nI b) td rg pa vl) H → va_D (wr_in (ClW ox op xO xW xN xC xA xM xG xT xH xR xF xB xX ob oc oh hc hp ot yc yt cI cZ kn aO aW aN aC aA kS aM aG aT aH aR aF kF aB kT aX (nI n) f (nI q) zf zn co (nI b) td rg pa vl)) (ClW ox op xO xW xN xC xA xM xG xT xH xR xF xB xX ob oc oh hc hp ot yc yt cI cZ kn aO aW aN aC aA kS aM aG aT aH aR aF kF aB kT aX (nI n) f (nI q) zf zn co (nI b) td rg pa vl) → va_S (wr_in (ClW ox op xO xW xN xC xA xM xG xT xH xR xF xB xX ob oc oh hc hp ot yc yt cI cZ kn aO aW aN aC aA kS aM aG aT aH aR aF kF aB kT aX (nI n) f (nI q) zf zn co (nI b) td rg pa vl)) s.heap H locs → wx_W p l e wsX4_add ({ frames := 6, cells := 1, slots := 6, locals := 101 } : Room) s m [.ref ox, .int x, .int y, .int wd, .int hg, .int wt] below meth c D (ClW ox op xO xW xN xC xA xM xG xT xH xR xF xB xX ob oc oh hc hp ot yc yt cI cZ kn aO aW aN aC aA kS aM aG aT aH aR aF kF aB kT aX (nI n) f (nI q) zf zn co (nI b) td rg pa vl) (fun v w9 => ∃ (r9 : Int32) (A9 : AS), v = some (.int r9) ∧ spAdd ((n, P), (q, hs), (b, co)) x y wd hg wt = (0, r9, A9) ∧ ClP ox op xO xW xN xC xA xM xG xT xH xR xF xB xX ob oc oh hc hp ot yc yt cI cZ A9 w9) (fun E w9 => ((E = "java/lang/IllegalArgumentException" ∧ spAdd ((n, P), (q, hs), (b, co)) x y wd hg wt = (1, 0, ((n, P), (q, hs), (b, co)))) ∨ (E = "java/lang/IllegalStateException" ∧ spAdd ((n, P), (q, hs), (b, co)) x y wd hg wt = (2, 0, ((n, P), (q, hs), (b, co))))) ∧ ClP ox op xO xW xN xC xA xM xG xT xH xR xF xB xX ob oc oh hc hp ot yc yt cI cZ ((n, P), (q, hs), (b, co)) w9) H locs (F0 m 0 ls []) from body _ _ hP hD hS
  clear hP hD hS
  intro H locs hP hD hS
  refine lv_iload_n hx hb dX4_add_0 rfl (lv_at hl 1 rfl) ?_
  refine lv_iload_n hx hb dX4_add_1 rfl (lv_at hl 2 rfl) ?_
  refine rd_callS (As := [.int x, .int y]) (rest := []) ⟨hx, hb, hml, hown, hts⟩ (c_X4_isSquare l D x y) (va_cwS 2 hts gX4_add_X4_isSquare rfl rfl rfl (by decide +kernel) ⟨by decide, by decide⟩) hK hN hP rfl hl.1 rfl (Nat.le_of_ble_eq_true rfl) ⟨by decide, by decide⟩ dX4_add_2 ?_
  refine rd_ifeq_b (tgt := 25) hx hb dX4_add_5 (by decide) (fun c_5 => ?_) (fun c_5 => ?_)
  · exact wx_throw (cls := "java/lang/IllegalArgumentException") (text := "an argument is out of range") (ik := 48) (is := 50) (ic := 52) hx hb hfl hown hlocks htab (hl.1.trans hml.symm) hT hP hS rfl (⟨Or.inl ⟨rfl, by unfold spAdd; dsimp only; rw [if_neg (by rw [mRef_1 (Or.inl c_5)]; decide), mRef_1 (Or.inl c_5)]⟩, _, _, _, _, _, _, _, _, _, _, _, _, _, _, _, _, _, _, _, _, _, _, _, _, hf, hh, rfl⟩) (by decide +kernel) (hts (.classLink RX4 48 "java/lang/IllegalArgumentException") (by decide +kernel)) (hts (.initialized "java/lang/IllegalArgumentException") (by decide +kernel)) (by decide) (fun w hw => hts w (List.mem_cons_of_mem _ (List.mem_append_left _ (List.mem_append_right _ hw)))) (by decide +kernel) hT.2.2.1.1 (by decide +kernel) dX4_add_25 dX4_add_28 dX4_add_29 dX4_add_31 dX4_add_34 (by decide) (by decide) (by decide) (by decide)
  · refine lv_iload_n hx hb dX4_add_8 rfl (lv_at hl 3 rfl) ?_
    refine lv_iload hx hb dX4_add_9 (lv_at hl 4 rfl) ?_
    refine rd_callS (As := [.int wd, .int hg]) (rest := []) ⟨hx, hb, hml, hown, hts⟩ (c_X4_isSize l D wd hg) (va_cwS 2 hts gX4_add_X4_isSize rfl rfl rfl (by decide +kernel) ⟨by decide, by decide⟩) hK hN hP rfl hl.1 rfl (Nat.le_of_ble_eq_true rfl) ⟨by decide, by decide⟩ dX4_add_11 ?_
    refine rd_ifeq_b (tgt := 25) hx hb dX4_add_14 (by decide) (fun c_14 => ?_) (fun c_14 => ?_)
    · exact wx_throw (cls := "java/lang/IllegalArgumentException") (text := "an argument is out of range") (ik := 48) (is := 50) (ic := 52) hx hb hfl hown hlocks htab (hl.1.trans hml.symm) hT hP hS rfl (⟨Or.inl ⟨rfl, by unfold spAdd; dsimp only; rw [if_neg (by rw [mRef_1 (Or.inr (Or.inl c_14))]; decide), mRef_1 (Or.inr (Or.inl c_14))]⟩, _, _, _, _, _, _, _, _, _, _, _, _, _, _, _, _, _, _, _, _, _, _, _, _, hf, hh, rfl⟩) (by decide +kernel) (hts (.classLink RX4 48 "java/lang/IllegalArgumentException") (by decide +kernel)) (hts (.initialized "java/lang/IllegalArgumentException") (by decide +kernel)) (by decide) (fun w hw => hts w (List.mem_cons_of_mem _ (List.mem_append_left _ (List.mem_append_right _ hw)))) (by decide +kernel) hT.2.2.1.1 (by decide +kernel) dX4_add_25 dX4_add_28 dX4_add_29 dX4_add_31 dX4_add_34 (by decide) (by decide) (by decide) (by decide)
    · refine lv_iload hx hb dX4_add_17 (lv_at hl 5 rfl) ?_
      refine rd_callS (As := [.int wt]) (rest := []) ⟨hx, hb, hml, hown, hts⟩ (c_X4_isWeight l D wt) (va_cwS 1 hts gX4_add_X4_isWeight rfl rfl rfl (by decide +kernel) ⟨by decide, by decide⟩) hK hN hP rfl hl.1 rfl (Nat.le_of_ble_eq_true rfl) ⟨by decide, by decide⟩ dX4_add_19 ?_
      refine rd_ifne_b (tgt := 35) hx hb dX4_add_22 (by decide) (fun c_22 => ?_) (fun c_22 => ?_)
      · refine lv_aload_n hx hb dX4_add_35 rfl (lv_at hl 0 rfl) ?_
        refine va_get (D := D) (ci := 4) (v := .ref ob) (C := RX4) (T := TX4) (N := 4) hx hb hts hinX4 hown hK hP 0 rfl rfl 0 (by decide) hw10 (fun _ h9 => h9) rfl dX4_add_36 ?_
        refine lv_iload_n hx hb dX4_add_39 rfl (lv_at hl 1 rfl) ?_
        refine lv_iload_n hx hb dX4_add_40 rfl (lv_at hl 2 rfl) ?_
        have hbd : bd_in (ClW ox op xO xW xN xC xA xM xG xT xH xR xF xB xX ob oc oh hc hp ot yc yt cI cZ kn aO aW aN aC aA kS aM aG aT aH aR aF kF aB kT aX (nI n) f (nI q) zf zn co (nI b) td rg pa vl) [(cI, .int), (cZ, .boolean)] ob n P := ⟨15, 16, 0, oc, cI, f, rfl, rfl, rfl, hn8, hf⟩
        refine rd_callV (As := [.int x, .int y]) (rest := []) ⟨hx, hb, hml, hown, hts⟩ (c_X0_takesPointOn l D hbd x y) (cwV 2 hts gX4_add_X0_takesPointOn rfl rfl rfl (by decide +kernel) ⟨by decide, by decide⟩) hK hN hP (q0 := 15) rfl rfl rfl hl.1 rfl (Nat.le_of_ble_eq_true rfl) ⟨by decide, by decide⟩ dX4_add_41 ?_
        refine rd_ifne_b (tgt := 57) hx hb dX4_add_44 (by decide) (fun c_44 => ?_) (fun c_44 => ?_)
        · refine lv_aload_n hx hb dX4_add_57 rfl (lv_at hl 0 rfl) ?_
          refine va_get (D := D) (ci := 4) (v := .ref oh) (C := RX4) (T := TX4) (N := 4) hx hb hts hinX4 hown hK hP 0 rfl rfl 1 (by decide) hw19 (fun _ h9 => h9) rfl dX4_add_58 ?_
          refine lv_aload_n hx hb dX4_add_61 rfl (lv_at hl 0 rfl) ?_
          refine va_get (D := D) (ci := 4) (v := .ref ob) (C := RX4) (T := TX4) (N := 4) hx hb hts hinX4 hown hK hP 0 rfl rfl 0 (by decide) hw10 (fun _ h9 => h9) rfl dX4_add_62 ?_
          refine wr_callV (As := [.ref ob]) (rest := []) ⟨hx, hb, hml, hown, hts⟩ (c_X1_save l D (k := q) hq6) (cwV 1 hts gX4_add_X1_save rfl rfl rfl (by decide +kernel) ⟨by decide, by decide⟩) hK hN hZ hP hD hS [17, 18, 19, 15, 16] [0] rfl (by decide) rfl (q0 := 17) rfl rfl rfl hl.1 rfl (Nat.le_of_ble_eq_true rfl) ⟨by decide, by decide⟩ dX4_add_65 (fun v9 w9 H locs hp9 hP hD hS => ?_)
          obtain ⟨rfl, rfl⟩ := hp9
          have hP : va_P D vwCl (ClW ox op xO xW xN xC xA xM xG xT xH xR xF xB xX ob oc oh hc hp ot yc yt cI cZ kn aO aW aN aC aA kS aM aG aT aH aR aF kF aB kT aX (nI n) f (nI ((if q < 6 then q else 5) + 1)) (va_cpy f (if q < 6 then zf else va_cpy zf zf 48 0 240) 0 ((if q < 6 then q else 5) * 48) 48) (upd (if q < 6 then zn else va_cpy zn zn 1 0 5) (if q < 6 then q else 5) (nI n)) co (nI b) td rg pa vl) H := hP
          have hD : va_D (wr_in (ClW ox op xO xW xN xC xA xM xG xT xH xR xF xB xX ob oc oh hc hp ot yc yt cI cZ kn aO aW aN aC aA kS aM aG aT aH aR aF kF aB kT aX (nI n) f (nI q) zf zn co (nI b) td rg pa vl)) (ClW ox op xO xW xN xC xA xM xG xT xH xR xF xB xX ob oc oh hc hp ot yc yt cI cZ kn aO aW aN aC aA kS aM aG aT aH aR aF kF aB kT aX (nI n) f (nI ((if q < 6 then q else 5) + 1)) (va_cpy f (if q < 6 then zf else va_cpy zf zf 48 0 240) 0 ((if q < 6 then q else 5) * 48) 48) (upd (if q < 6 then zn else va_cpy zn zn 1 0 5) (if q < 6 then q else 5) (nI n)) co (nI b) td rg pa vl) := hD
          refine W.eq (g2 := F0 m 68 ls []) rfl ?_
          refine lv_aload_n hx hb dX4_add_68 rfl (lv_at hl 0 rfl) ?_
          refine va_get (D := D) (ci := 4) (v := .ref ob) (C := RX4) (T := TX4) (N := 4) hx hb hts hinX4 hown hK hP 0 rfl rfl 0 (by decide) hw10 (fun _ h9 => h9) rfl dX4_add_69 ?_
          refine lv_iload_n hx hb dX4_add_72 rfl (lv_at hl 1 rfl) ?_
          refine lv_iload_n hx hb dX4_add_73 rfl (lv_at hl 2 rfl) ?_
          refine lv_iload_n hx hb dX4_add_74 rfl (lv_at hl 3 rfl) ?_
          refine lv_iload hx hb dX4_add_75 (lv_at hl 4 rfl) ?_
          refine lv_iload hx hb dX4_add_77 (lv_at hl 5 rfl) ?_
          refine wr_callV (As := [.int x, .int y, .int wd, .int hg, .int wt]) (rest := []) ⟨hx, hb, hml, hown, hts⟩ (c_X0_insert l D (gTk_8 c_44) hf x y wd hg wt) (cwV 5 hts gX4_add_X0_insert rfl rfl rfl (by decide +kernel) ⟨by decide, by decide⟩) hK hN hZ hP hD hS [15, 16] [0] rfl (by decide) rfl (q0 := 15) rfl rfl rfl hl.1 rfl (Nat.le_of_ble_eq_true rfl) ⟨by decide, by decide⟩ dX4_add_79 (fun v9 w9 H locs hp9 hP hD hS => ?_)
          obtain hp9 := hp9
          obtain ⟨rfl, f9, rfl, hf9⟩ := hp9
          have hP : va_P D vwCl (ClW ox op xO xW xN xC xA xM xG xT xH xR xF xB xX ob oc oh hc hp ot yc yt cI cZ kn aO aW aN aC aA kS aM aG aT aH aR aF kF aB kT aX (nI (n + 1)) f9 (nI ((if q < 6 then q else 5) + 1)) (va_cpy f (if q < 6 then zf else va_cpy zf zf 48 0 240) 0 ((if q < 6 then q else 5) * 48) 48) (upd (if q < 6 then zn else va_cpy zn zn 1 0 5) (if q < 6 then q else 5) (nI n)) co (nI b) td rg pa vl) H := hP
          have hD : va_D (wr_in (ClW ox op xO xW xN xC xA xM xG xT xH xR xF xB xX ob oc oh hc hp ot yc yt cI cZ kn aO aW aN aC aA kS aM aG aT aH aR aF kF aB kT aX (nI n) f (nI q) zf zn co (nI b) td rg pa vl)) (ClW ox op xO xW xN xC xA xM xG xT xH xR xF xB xX ob oc oh hc hp ot yc yt cI cZ kn aO aW aN aC aA kS aM aG aT aH aR aF kF aB kT aX (nI (n + 1)) f9 (nI ((if q < 6 then q else 5) + 1)) (va_cpy f (if q < 6 then zf else va_cpy zf zf 48 0 240) 0 ((if q < 6 then q else 5) * 48) 48) (upd (if q < 6 then zn else va_cpy zn zn 1 0 5) (if q < 6 then q else 5) (nI n)) co (nI b) td rg pa vl) := hD
          refine W.eq (g2 := F0 m 82 ls [.int (nI n)]) rfl ?_
          exact wx_iret hx hb hr hlocks hP hS rfl dX4_add_82 (by exact ⟨_, aPut (n + 1, mIns n P x y wd hg wt) ((n, P), (q, hs), (b, co)), rfl, by unfold spAdd; dsimp only; rw [if_pos (mRef_00 hn8 c_5 c_14 c_22 c_44)], _, _, _, _, _, _, _, _, _, _, _, _, _, _, _, _, _, _, _, _, _, _, _, _, (clB_ext hf9 (gIns_mIns hbk hgd hn8 x y wd hg wt)), (clH_save hq6 hn8 hhs hh hf), rfl⟩)
        · exact wx_throw (cls := "java/lang/IllegalStateException") (text := "there are 8 points, or one stands there") (ik := 58) (is := 60) (ic := 62) hx hb hfl hown hlocks htab (hl.1.trans hml.symm) hT hP hS rfl (⟨Or.inr (⟨rfl, by unfold spAdd; dsimp only; rw [if_neg (by rw [mRef_2 hn8 c_5 c_14 c_22 c_44]; decide), mRef_2 hn8 c_5 c_14 c_22 c_44]⟩), _, _, _, _, _, _, _, _, _, _, _, _, _, _, _, _, _, _, _, _, _, _, _, _, hf, hh, rfl⟩) (by decide +kernel) (hts (.classLink RX4 58 "java/lang/IllegalStateException") (by decide +kernel)) (hts (.initialized "java/lang/IllegalStateException") (by decide +kernel)) (by decide) (fun w hw => hts w (List.mem_cons_of_mem _ (List.mem_append_right _ hw))) (by decide +kernel) hT.2.2.1.2.1 (by decide +kernel) dX4_add_47 dX4_add_50 dX4_add_51 dX4_add_53 dX4_add_56 (by decide) (by decide) (by decide) (by decide)
      · exact wx_throw (cls := "java/lang/IllegalArgumentException") (text := "an argument is out of range") (ik := 48) (is := 50) (ic := 52) hx hb hfl hown hlocks htab (hl.1.trans hml.symm) hT hP hS rfl (⟨Or.inl ⟨rfl, by unfold spAdd; dsimp only; rw [if_neg (by rw [mRef_1 (Or.inr (Or.inr c_22))]; decide), mRef_1 (Or.inr (Or.inr c_22))]⟩, _, _, _, _, _, _, _, _, _, _, _, _, _, _, _, _, _, _, _, _, _, _, _, _, hf, hh, rfl⟩) (by decide +kernel) (hts (.classLink RX4 48 "java/lang/IllegalArgumentException") (by decide +kernel)) (hts (.initialized "java/lang/IllegalArgumentException") (by decide +kernel)) (by decide) (fun w hw => hts w (List.mem_cons_of_mem _ (List.mem_append_left _ (List.mem_append_right _ hw)))) (by decide +kernel) hT.2.2.1.1 (by decide +kernel) dX4_add_25 dX4_add_28 dX4_add_29 dX4_add_31 dX4_add_34 (by decide) (by decide) (by decide) (by decide)
