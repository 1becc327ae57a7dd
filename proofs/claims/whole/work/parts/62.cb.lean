theorem cmpv_gt : Op.cmpValue (some .gt) .g = 1 := by decide
theorem cmpv_eq : Op.cmpValue (some .eq) .g = 0 := by decide
theorem cmpv_lt : Op.cmpValue (some .lt) .g = -1 := by decide
theorem dn_k {c : Nat} {q : Int} (h : dnok c q) (h1 : -63 ≤ q) {k : Nat} (h2 : q + (k : Int) ≤ -52) : dnok c (q + (k : Int)) := ⟨h.1, h.2.1, by omega, by omega⟩
set_option maxHeartbeats 4000000 in
set_option maxRecDepth 100000 in
theorem c_X4_bitsOf_z (l : Launch) (D : va_G) : wr_M l yX4_bitsOf wsX4_bitsOf ({ frames := 0, cells := 0, slots := 0, locals := 0 } : Room) D (E0) [] [.double FP.dconst0] (fun v w9 => v = some (.long FP.dconst0.toInt64) ∧ w9 = E0) := by
  refine wr_of (cc := cX4_bitsOf) (maxL := 7) (ret := some .long) (by decide) rfl (Nat.le_of_ble_eq_true rfl) ?_
  intro p e s m below meth c hx hb hr hml hts hown hlocks hP hK hN hZ hD hS ls hl
  have hown : s.vm.findClass RX4 = some m.cls := hown
  have hl : lv_has ls 7 [(0, .double FP.dconst0)] := hl
  suffices body : ∀ (H : Heap) (locs : List Loc), va_P D vwCl (E0) H → va_D (wr_in (E0)) (E0) → va_S (wr_in (E0)) s.heap H locs → wr_W p l e wsX4_bitsOf ({ frames := 0, cells := 0, slots := 0, locals := 0 } : Room) s m [.double FP.dconst0] below meth c D (E0) (fun v w9 => v = some (.long FP.dconst0.toInt64) ∧ w9 = E0) H locs (F0 m 0 ls []) from body _ _ hP hD hS
  clear hP hD hS
  intro H locs hP hD hS
  refine lv_dload_n hx hb dX4_bitsOf_0 rfl (lv_at hl 0 rfl) ?_
  refine lv_dconst0 hx hb dX4_bitsOf_1 ?_
  refine lv_dcmp hx hb dX4_bitsOf_2 ?_
  refine lv_asi (y := 0) (by rw [cmp00, cmpv_eq]) ?_
  refine lv_if_gt (tgt := 8) hx hb dX4_bitsOf_3 (by decide) (fun h9 => absurd h9 (by decide)) (fun _ => ?_)
  refine lv_lconst (v := 0) hx hb dX4_bitsOf_6 (by decide) ?_
  exact wr_lret hx hb hr hlocks hP hS rfl dX4_bitsOf_7 (by exact ⟨rfl, rfl⟩)
set_option maxHeartbeats 4000000 in
set_option maxRecDepth 100000 in
theorem c_X4_bitsOf_n (l : Launch) (D : va_G) {cq : Nat} {q : Int} (h0 : dnok cq q) (h1 : -63 ≤ q) (h2 : q ≤ -52) : wr_M l yX4_bitsOf wsX4_bitsOf ({ frames := 0, cells := 0, slots := 0, locals := 0 } : Room) D (E0) [] [.double (dn cq q)] (fun v w9 => v = some (.long (dn cq q).toInt64) ∧ w9 = E0) := by
  refine wr_of (cc := cX4_bitsOf) (maxL := 7) (ret := some .long) (by decide) rfl (Nat.le_of_ble_eq_true rfl) ?_
  intro p e s m below meth c hx hb hr hml hts hown hlocks hP hK hN hZ hD hS ls hl
  have hown : s.vm.findClass RX4 = some m.cls := hown
  have hl : lv_has ls 7 [(0, .double (dn cq q))] := hl
  have hw277 := hts (.constantLong RX4 277 (1023)) (by decide +kernel)
  have hw279 := hts (.constantDouble RX4 279 (4611686018427387904)) (by decide +kernel)
  have hw281 := hts (.constantDouble RX4 281 (4841369599423283200)) (by decide +kernel)
  suffices body : ∀ (H : Heap) (locs : List Loc), va_P D vwCl (E0) H → va_D (wr_in (E0)) (E0) → va_S (wr_in (E0)) s.heap H locs → wr_W p l e wsX4_bitsOf ({ frames := 0, cells := 0, slots := 0, locals := 0 } : Room) s m [.double (dn cq q)] below meth c D (E0) (fun v w9 => v = some (.long (dn cq q).toInt64) ∧ w9 = E0) H locs (F0 m 0 ls []) from body _ _ hP hD hS
  clear hP hD hS
  intro H locs hP hD hS
  refine lv_dload_n hx hb dX4_bitsOf_0 rfl (lv_at hl 0 rfl) ?_
  refine lv_dconst0 hx hb dX4_bitsOf_1 ?_
  refine lv_dcmp hx hb dX4_bitsOf_2 ?_
  refine lv_asi (y := 1) (by rw [dn_cmp0 h0, cmpv_gt]) ?_
  refine lv_if_gt (tgt := 8) hx hb dX4_bitsOf_3 (by decide) (fun _ => ?_) (fun h9 => absurd (by decide) h9)
  refine lv_dload_n hx hb dX4_bitsOf_8 rfl (lv_at hl 0 rfl) ?_
  refine lv_dstore_n (lv' := [(2, .double (dn cq q)), (0, .double (dn cq q))]) hx hb dX4_bitsOf_9 rfl hl (by decide) rfl (fun ls hl => ?_)
  refine lv_ldc2 (v := 1023) hx hb hown hw277 dX4_bitsOf_10 ?_
  refine lv_lstore (lv' := [(4, .long 1023), (2, .double (dn cq q)), (0, .double (dn cq q))]) hx hb dX4_bitsOf_13 hl (by decide) rfl (fun ls hl => ?_)
  refine lv_iconst (v := 0) hx hb dX4_bitsOf_15 (by decide) ?_
  refine lv_istore (lv' := [(6, .int 0), (4, .long 1023), (2, .double (dn cq q)), (0, .double (dn cq q))]) hx hb dX4_bitsOf_16 hl (by decide) rfl (fun ls hl => ?_)
  suffices loop18 : ∀ (k18 k : Nat) (sc : UInt64) (ex : Int64) (H : Heap) (locs : List Loc) (ls : Array Slot), k ≤ 1000 → 1000 + 1 ≤ k + k18 → (sc = dn cq (q + (k : Int)) ∧ ex = lN (1023 - k) ∧ q + (k : Int) ≤ -52) → va_P D vwCl (E0) H → va_D (wr_in (E0)) (E0) → va_S (wr_in (E0)) s.heap H locs → lv_has ls 7 [(0, .double (dn cq q)), (2, .double sc), (4, .long ex), (6, .int (nI k))] → wr_W p l e wsX4_bitsOf ({ frames := 0, cells := 0, slots := 0, locals := 0 } : Room) s m [.double (dn cq q)] below meth c D (E0) (fun v w9 => v = some (.long (dn cq q).toInt64) ∧ w9 = E0) H locs (F0 m 18 ls []) from
    loop18 (1000 + 1) 0 (dn cq q) 1023 H locs ls (by omega) (by omega) (by exact ⟨by rw [show q + ((0 : Nat) : Int) = q by omega], rfl, by omega⟩) hP hD hS (lv_sub hl [3, 2, 1, 0] rfl)
  intro k18
  induction k18 with
  | zero => intro k sc ex H locs ls h1 h2; exact absurd h2 (by omega)
  | succ k18 ih18 =>
    intro k sc ex H locs ls hle18 hlt18 inv18 hP hD hS hl
    obtain ⟨e1, e2, e3⟩ := inv18
    refine lv_iload hx hb dX4_bitsOf_18 (lv_at hl 3 rfl) ?_
    refine lv_sipush (v := 1000) hx hb dX4_bitsOf_20 (by decide) ?_
    refine rd_icmp_ge_n (a := k) (b := 1000) (tgt := 50) (by omega) (by omega) hx hb dX4_bitsOf_23 (by decide) (fun c_23 => ?_) (fun c_23 => ?_)
    · exact absurd c_23 (by omega)
    refine lv_dload_n hx hb dX4_bitsOf_26 rfl (lv_at hl 1 rfl) ?_
    refine lv_dconst1 hx hb dX4_bitsOf_27 ?_
    refine lv_dcmp hx hb dX4_bitsOf_28 ?_
    rcases (show q + (k : Int) < -52 ∨ q + (k : Int) = -52 by omega) with hlt | heq
    · refine lv_asi (y := -1) (by rw [e1, dn_cmp_lt (dn_k h0 h1 e3) hlt, cmpv_lt]) ?_
      refine lv_if_ge (tgt := 50) hx hb dX4_bitsOf_29 (by decide) (fun h9 => absurd h9 (by decide)) (fun _ => ?_)
      refine lv_dload_n hx hb dX4_bitsOf_32 rfl (lv_at hl 1 rfl) ?_
      refine lv_ldc2d (v := 4611686018427387904) hx hb hown hw279 dX4_bitsOf_33 ?_
      refine lv_dmul hx hb dX4_bitsOf_36 (by rw [e1]; exact n64_val (dn_dbl_v (dn_k h0 h1 e3) (by omega))) ?_
      refine lv_dstore_n (lv' := [(2, .double (FP.dmul sc 4611686018427387904)), (0, .double (dn cq q)), (4, .long ex), (6, .int (nI k))]) hx hb dX4_bitsOf_37 rfl hl (by decide) rfl (fun ls hl => ?_)
      refine lv_lload hx hb dX4_bitsOf_38 (lv_at hl 2 rfl) ?_
      refine lv_lconst (v := 1) hx hb dX4_bitsOf_40 (by decide) ?_
      refine lv_lsub hx hb dX4_bitsOf_41 ?_
      refine lv_lstore (lv' := [(4, .long (ex - 1)), (2, .double (FP.dmul sc 4611686018427387904)), (0, .double (dn cq q)), (6, .int (nI k))]) hx hb dX4_bitsOf_42 hl (by decide) rfl (fun ls hl => ?_)
      refine lv_iinc (v := nI (k + 1)) (lv' := [(6, .int (nI (k + 1))), (4, .long (ex - 1)), (2, .double (FP.dmul sc 4611686018427387904)), (0, .double (dn cq q))]) hx hb dX4_bitsOf_44 hl (k := 3) rfl (nI_add k 1) (by decide) rfl (fun ls hl => ?_)
      refine lv_goto (tgt := 18) hx hb dX4_bitsOf_47 (by decide) ?_
      exact ih18 (k + 1) (FP.dmul sc 4611686018427387904) (ex - 1) H locs ls (by omega) (by omega) (by exact ⟨by rw [e1, dn_dbl (dn_k h0 h1 e3) (by omega), show q + (k : Int) + 1 = q + ((k + 1 : Nat) : Int) by omega], by rw [e2, show (1 : Int64) = lN 1 from rfl, lN_sub (by omega), show 1023 - k - 1 = 1023 - (k + 1) by omega], by omega⟩) hP hD hS (lv_sub hl [3, 2, 1, 0] rfl)
    · obtain ⟨v9, hv9, ev9⟩ : ∃ v9 : Int32, 0 ≤ v9 ∧ Op.cmpValue (FP.dcmp sc FP.dconst1) .g = v9 := by
        have hc9 := dn_cmp_ge (c := cq) (by have := dn_k h0 h1 e3; rw [heq] at this; exact this)
        rw [e1, heq]
        rcases hc9 with z | z <;> rw [z]
        · exact ⟨0, by decide, cmpv_eq⟩
        · exact ⟨1, by decide, cmpv_gt⟩
      refine lv_asi (y := v9) ev9 ?_
      refine lv_if_ge (tgt := 50) hx hb dX4_bitsOf_29 (by decide) (fun c_29 => ?_) (fun c_29 => ?_)
      rotate_left
      · exact absurd hv9 c_29
      have hk9 : dnok cq (-52) := by have := dn_k h0 h1 e3; rw [heq] at this; exact this
      refine lv_lload hx hb dX4_bitsOf_50 (lv_at hl 2 rfl) ?_
      refine lv_bipush (v := 52) hx hb dX4_bitsOf_52 (by decide) ?_
      refine lv_lshl (v := ex <<< ((52 : Int32).toInt64 &&& 63)) hx hb dX4_bitsOf_54 rfl ?_
      refine lv_dload_n hx hb dX4_bitsOf_55 rfl (lv_at hl 1 rfl) ?_
      refine lv_dconst1 hx hb dX4_bitsOf_56 ?_
      refine lv_dsub hx hb dX4_bitsOf_57 (by rw [e1, heq]; exact dn_sub_n hk9) ?_
      refine lv_ldc2d (v := 4841369599423283200) hx hb hown hw281 dX4_bitsOf_58 ?_
      refine lv_dmul hx hb dX4_bitsOf_61 (by rw [e1, heq]; exact (dn_frac hk9).1) ?_
      refine lv_d2l hx hb dX4_bitsOf_62 ?_
      refine lv_ladd hx hb dX4_bitsOf_63 ?_
      exact wr_lret hx hb hr hlocks hP hS rfl dX4_bitsOf_64 (by exact ⟨by rw [e2, e1, heq, (dn_frac hk9).2, show 1023 - k = 1023 - (-52 - q).toNat by omega, dn_bits h0 h1 h2], rfl⟩)
theorem c_X4_bitsOf (l : Launch) (D : va_G) {x : UInt64} (hx : shOK x) : wr_M l yX4_bitsOf wsX4_bitsOf ({ frames := 0, cells := 0, slots := 0, locals := 0 } : Room) D (E0) [] [.double x] (fun v w9 => v = some (.long x.toInt64) ∧ w9 = E0) := by
  rcases hx with rfl | ⟨c, q, h0, h1, h2, rfl⟩
  · exact c_X4_bitsOf_z l D
  · exact c_X4_bitsOf_n l D h0 h1 h2
