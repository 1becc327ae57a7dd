theorem lw_le {i L : Nat} (hL : L ≤ 3072) (hi : i ≤ L) (h : ¬ (Int32.ofNat L - 6 < nI i)) : i + 6 ≤ L := by
  apply Classical.byContradiction
  intro hc
  apply h
  have e6 : (6 : Int32).toInt = 6 := by decide
  have eL : (Int32.ofNat L).toInt = (L : Int) := nI_toInt (by omega)
  have ei : (nI i).toInt = (i : Int) := nI_toInt (by omega)
  rw [Int32.lt_iff_toInt_lt, ti_sub (by omega) (by omega), eL, ei, e6]
  omega
theorem mIn_out {x : Int32} (h : ¬ mIn x 0 24 = true) : x.toInt < 0 ∨ 24 < x.toInt := by
  apply Classical.byContradiction
  intro hc
  apply h
  unfold mIn
  rw [decide_eq_true_iff, Int32.le_iff_toInt_le, Int32.le_iff_toInt_le, ti_0, show (24 : Int32).toInt = 24 by decide]
  omega
set_option maxHeartbeats 4000000 in
set_option maxRecDepth 100000 in
theorem law_loop {p : Program} {l : Launch} {e : Env} {s : State} {m : MethodId} {below : List Frame} {meth : Method} {c : Code} {b L : Nat} {xs : Nat → Int32} {D : va_G} {ox op xO xW xN xC xA xM xG xT xH xR xF xB xX ob oc oh hc hp ot yc yt ol om uS uV uB uT uA uP uR : Nat} {cI cZ cJ : ClassId} (F : LcF p l s m c b L xs D cI cZ cJ) (hr : meth.sig.returnType = ret) (hlocks : meth.locks = false) (hL : L ≤ 3072) : ∀ (n i : Nat), i ≤ L → L + 1 ≤ i + n → ∀ (A : AS) (t : Int32) (wc wm : va_W) (g : Nat → Int64) (H : Heap) (locs : List Loc) (ls : Array Slot), aOK A → ClP ox op xO xW xN xC xA xM xG xT xH xR xF xB xX ob oc oh hc hp ot yc yt cI cZ A wc → MdP om uS uV uB uT uA uP uR cI t A wm → va_P D vwCl (Wl wc cJ ol g wm) H → va_D (fun q : Nat => s.heap.size ≤ q) (Wl wc cJ ol g wm) → va_S (fun q : Nat => s.heap.size ≤ q) s.heap H locs → lv_has ls 9 [(4, .int (nI i)), (3, .ref ol), (2, .ref om), (1, .ref ox), (0, .ref b)] → W p l e room_1 s m #[Value.ref b] below meth c H locs (100 + i) (4000 + 6 * i) (lw_Z below #[Value.ref b] s) (F0 m 23 ls []) := by
  obtain ⟨hfl, hx, hb, hml, hown, hts, hX, hbl, hK, hN, hZ, hT⟩ := id F
  have hbA : ¬ (fun q : Nat => s.heap.size ≤ q) b := Nat.not_le.mpr hbl
  intro n
  induction n with
  | zero => intro i h1 h2; exact absurd h2 (by omega)
  | succ n ih =>
    intro i hiL hin A t wc wm g H locs ls hA hC hM hP hD hS hl
    refine lv_iload hx hb dL_law_23 (lv_at hl 0 rfl) ?_
    refine lv_aload_n hx hb dL_law_25 rfl (lv_at hl 4 rfl) ?_
    refine va_slen hx hb hX hbl hbA hS dL_law_26 ?_
    refine lv_bipush (v := 6) hx hb dL_law_27 (by decide) ?_
    refine lv_isub hx hb dL_law_29 ?_
    refine lv_icmp_gt (tgt := 1379) hx hb dL_law_30 (by decide) (fun _ => ?_) (fun hgt => ?_)
    · refine lv_iconst (v := 1) hx hb dL_law_1379 (by decide) ?_
      refine va_forget (fun q hq => hS.2.2 q hq) ?_
      refine W.widen (k := 601181) (n := 7292561) (by omega) (by omega) ?_
      refine W.base ?_
      exact lw_ret (Drawn.sameBut.refl s.drawn lw_cs) hx hb hr hlocks dL_law_1380
    · have hi6 := lw_le hL hiL hgt
      have KK : ∀ (A9 : AS) (t9 : Int32) (wc9 wm9 : va_W) (g9 : Nat → Int64) (H9 : Heap) (locs9 : List Loc) (ls9 : Array Slot), aOK A9 → ClP ox op xO xW xN xC xA xM xG xT xH xR xF xB xX ob oc oh hc hp ot yc yt cI cZ A9 wc9 → MdP om uS uV uB uT uA uP uR cI t9 A9 wm9 → va_P D vwCl (Wl wc9 cJ ol g9 wm9) H9 → va_D (fun q : Nat => s.heap.size ≤ q) (Wl wc9 cJ ol g9 wm9) → va_S (fun q : Nat => s.heap.size ≤ q) s.heap H9 locs9 → lv_has ls9 9 [(4, .int (nI i)), (3, .ref ol), (2, .ref om), (1, .ref ox), (0, .ref b)] → W p l e room_1 s m #[Value.ref b] below meth c H9 locs9 (100 + i + 1) (4000 + 6 * i + 6) (lw_Z below #[Value.ref b] s) (F0 m 1373 ls9 []) := by
        intro A9 t9 wc9 wm9 g9 H9 locs9 ls9 hA hC hM hP hD hS hl
        refine lv_iinc (v := nI (i + 6)) (lv' := [(4, .int (nI (i + 6))), (3, .ref ol), (2, .ref om), (1, .ref ox), (0, .ref b)]) hx hb dL_law_1373 hl (k := 0) rfl (nI_add i 6) (by decide) rfl (fun ls hl => ?_)
        refine lv_goto (tgt := 23) hx hb dL_law_1376 (by decide) ?_
        refine W.widen (k := 100 + (i + 6)) (n := 4000 + 6 * (i + 6)) (by omega) (by omega) ?_
        exact ih (i + 6) (by omega) (by omega) A9 t9 wc9 wm9 g9 H9 locs9 ls hA hC hM hP hD hS hl
      refine lv_aload_n hx hb dL_law_33 rfl (lv_at hl 4 rfl) ?_
      refine lv_iload hx hb dL_law_34 (lv_at hl 0 rfl) ?_
      refine va_sld hx hb hX hbl hbA hS (vp_in_nI (by omega) (by omega)) dL_law_36 ?_
      refine lv_bipush (v := 31) hx hb dL_law_37 (by decide) ?_
      refine lv_iand hx hb dL_law_39 ?_
      by_cases hin24 : mIn (xs (nI i).toNatClampNeg &&& 31) 0 24 = true
      · obtain ⟨k, hk, ek⟩ := mIn_nat (m := 24) hin24 (by decide)
        refine lv_asi (y := nI k) ek ?_
        rcases (show k = 0 ∨ k = 1 ∨ k = 2 ∨ k = 3 ∨ k = 4 ∨ k = 5 ∨ k = 6 ∨ k = 7 ∨ k = 8 ∨ k = 9 ∨ k = 10 ∨ k = 11 ∨ k = 12 ∨ k = 13 ∨ k = 14 ∨ k = 15 ∨ k = 16 ∨ k = 17 ∨ k = 18 ∨ k = 19 ∨ k = 20 ∨ k = 21 ∨ k = 22 ∨ k = 23 ∨ k = 24 by omega) with rfl | rfl | rfl | rfl | rfl | rfl | rfl | rfl | rfl | rfl | rfl | rfl | rfl | rfl | rfl | rfl | rfl | rfl | rfl | rfl | rfl | rfl | rfl | rfl | rfl
        · refine lv_tableIn (tgt := 156) hx hb dL_law_40 (by decide) (by decide) rfl (by decide) ?_
          exact law_0 F hi6 hL hA hC hM hP hD hS hl (by omega) (by omega) KK
        · refine lv_tableIn (tgt := 260) hx hb dL_law_40 (by decide) (by decide) rfl (by decide) ?_
          exact law_1 F hi6 hL hA hC hM hP hD hS hl (by omega) (by omega) KK
        · refine lv_tableIn (tgt := 316) hx hb dL_law_40 (by decide) (by decide) rfl (by decide) ?_
          exact law_2 F hi6 hL hA hC hM hP hD hS hl (by omega) (by omega) KK
        · refine lv_tableIn (tgt := 384) hx hb dL_law_40 (by decide) (by decide) rfl (by decide) ?_
          exact law_3 F hi6 hL hA hC hM hP hD hS hl (by omega) (by omega) KK
        · refine lv_tableIn (tgt := 464) hx hb dL_law_40 (by decide) (by decide) rfl (by decide) ?_
          exact law_4 F hi6 hL hA hC hM hP hD hS hl (by omega) (by omega) KK
        · refine lv_tableIn (tgt := 532) hx hb dL_law_40 (by decide) (by decide) rfl (by decide) ?_
          exact law_5 F hi6 hL hA hC hM hP hD hS hl (by omega) (by omega) KK
        · refine lv_tableIn (tgt := 588) hx hb dL_law_40 (by decide) (by decide) rfl (by decide) ?_
          exact law_6 F hi6 hL hA hC hM hP hD hS hl (by omega) (by omega) KK
        · refine lv_tableIn (tgt := 601) hx hb dL_law_40 (by decide) (by decide) rfl (by decide) ?_
          exact law_7 F hi6 hL hA hC hM hP hD hS hl (by omega) (by omega) KK
        · refine lv_tableIn (tgt := 657) hx hb dL_law_40 (by decide) (by decide) rfl (by decide) ?_
          exact law_8 F hi6 hL hA hC hM hP hD hS hl (by omega) (by omega) KK
        · refine lv_tableIn (tgt := 670) hx hb dL_law_40 (by decide) (by decide) rfl (by decide) ?_
          exact law_9 F hi6 hL hA hC hM hP hD hS hl (by omega) (by omega) KK
        · refine lv_tableIn (tgt := 726) hx hb dL_law_40 (by decide) (by decide) rfl (by decide) ?_
          exact law_10 F hi6 hL hA hC hM hP hD hS hl (by omega) (by omega) KK
        · refine lv_tableIn (tgt := 739) hx hb dL_law_40 (by decide) (by decide) rfl (by decide) ?_
          exact law_11 F hi6 hL hA hC hM hP hD hS hl (by omega) (by omega) KK
        · refine lv_tableIn (tgt := 752) hx hb dL_law_40 (by decide) (by decide) rfl (by decide) ?_
          exact law_12 F hi6 hL hA hC hM hP hD hS hl (by omega) (by omega) KK
        · refine lv_tableIn (tgt := 796) hx hb dL_law_40 (by decide) (by decide) rfl (by decide) ?_
          exact law_13 F hi6 hL hA hC hM hP hD hS hl (by omega) (by omega) KK
        · refine lv_tableIn (tgt := 840) hx hb dL_law_40 (by decide) (by decide) rfl (by decide) ?_
          exact law_14 F hi6 hL hA hC hM hP hD hS hl (by omega) (by omega) KK
        · refine lv_tableIn (tgt := 908) hx hb dL_law_40 (by decide) (by decide) rfl (by decide) ?_
          exact law_15 F hi6 hL hA hC hM hP hD hS hl (by omega) (by omega) KK
        · refine lv_tableIn (tgt := 1000) hx hb dL_law_40 (by decide) (by decide) rfl (by decide) ?_
          exact law_16 F hi6 hL hA hC hM hP hD hS hl (by omega) (by omega) KK
        · refine lv_tableIn (tgt := 1068) hx hb dL_law_40 (by decide) (by decide) rfl (by decide) ?_
          exact law_17 F hi6 hL hA hC hM hP hD hS hl (by omega) (by omega) KK
        · refine lv_tableIn (tgt := 1124) hx hb dL_law_40 (by decide) (by decide) rfl (by decide) ?_
          exact law_18 F hi6 hL hA hC hM hP hD hS hl (by omega) (by omega) KK
        · refine lv_tableIn (tgt := 1180) hx hb dL_law_40 (by decide) (by decide) rfl (by decide) ?_
          exact law_19 F hi6 hL hA hC hM hP hD hS hl (by omega) (by omega) KK
        · refine lv_tableIn (tgt := 1236) hx hb dL_law_40 (by decide) (by decide) rfl (by decide) ?_
          exact law_20 F hi6 hL hA hC hM hP hD hS hl (by omega) (by omega) KK
        · refine lv_tableIn (tgt := 1292) hx hb dL_law_40 (by decide) (by decide) rfl (by decide) ?_
          exact law_21 F hi6 hL hA hC hM hP hD hS hl (by omega) (by omega) KK
        · refine lv_tableIn (tgt := 1305) hx hb dL_law_40 (by decide) (by decide) rfl (by decide) ?_
          exact law_22 F hi6 hL hA hC hM hP hD hS hl (by omega) (by omega) KK
        · refine lv_tableIn (tgt := 1318) hx hb dL_law_40 (by decide) (by decide) rfl (by decide) ?_
          exact law_23 F hi6 hL hA hC hM hP hD hS hl (by omega) (by omega) KK
        · refine lv_tableIn (tgt := 1359) hx hb dL_law_40 (by decide) (by decide) rfl (by decide) ?_
          exact law_24 F hi6 hL hA hC hM hP hD hS hl (by omega) (by omega) KK
      · refine lv_tableOut (tgt := 1373) hx hb dL_law_40 (mIn_out hin24) (by decide) ?_
        refine W.widen (k := 100 + i + 1) (n := 4000 + 6 * i + 6) (by omega) (by omega) ?_
        exact KK A t wc wm g H locs ls hA hC hM hP hD hS hl
