/-! THE CONSTRUCTORS -/
theorem K_uni {D : va_G} {cl : List vw_C} {tys : List (ClassId × FieldType)} {cA cB : ClassId} {ty : FieldType} {s : State} (h : va_K D cl (tys ++ [(cA, ty)]) s) {k : Nat} (hk : tys[k]? = some (cB, ty)) (hno : ∀ C, ty ≠ .object C) : cA = cB := by
  have hlt : k < tys.length := (List.getElem?_eq_some_iff.mp hk).1
  have h1 := (h.2 tys.length (cA, ty) (by simp)).2
  have h2 := (h.2 k (cB, ty) (by rw [List.getElem?_append_left hlt]; exact hk)).2
  cases ty with
  | object C => exact absurd rfl (hno C)
  | _ => exact Option.some.inj (Eq.trans (Eq.symm h1) h2)
/-- the links of private constructors -/
def nn_ok (U : State) : Prop := va_Nw (.methodLinkNest RX4 9 yX0_init RX4) U ∧ va_Nw (.methodLinkNest RX4 18 yX1_init RX4) U ∧ va_Nw (.methodLinkNest RX4 25 yX3_init RX4) U ∧ va_Nw (.methodLinkNest RX4 32 yX2_init RX4) U
theorem nn_ok.warm {s U : State} (hW : s.WarmedH U.vm) (h : nn_ok s) : nn_ok U := ⟨va_Nw.warmM hW h.1, va_Nw.warmM hW h.2.1, va_Nw.warmM hW h.2.2.1, va_Nw.warmM hW h.2.2.2⟩
theorem nn_ok.same {u U : State} (hv : u.vm = U.vm) (h : nn_ok u) : nn_ok U := ⟨va_Nw.same rfl hv h.1, va_Nw.same rfl hv h.2.1, va_Nw.same rfl hv h.2.2.1, va_Nw.same rfl hv h.2.2.2⟩
def wn_B (D : va_G) (sz : Nat) (w : va_W) (tys : List (ClassId × FieldType)) (U : State) : Prop := U.heap.size = sz ∧ va_P D vwCl w U.heap ∧ va_K D vwCl tys U ∧ nn_ok U ∧ va_D (fun _ => True) w
theorem wn_blind {av : List Value} {D : va_G} {sz : Nat} {w : va_W} {tys : List (ClassId × FieldType)} : FrameBlind (va_Pc av (wn_B D sz w tys)) := by
  intro a U g mk q
  obtain ⟨q0, q1, qP, qK, qN, qD⟩ := q
  exact ⟨q0, q1, qP, va_K.moved (u := U) (U := U.calling g mk a) (Vm.Alike.refl U.vm) qK, nn_ok.same (u := U) (U := U.calling g mk a) rfl qN, qD⟩
set_option maxHeartbeats 4000000 in
set_option maxRecDepth 100000 in
theorem c_X0_init (l : Launch) (D : va_G) {h0 sz : Nat} {cI cZ : ClassId} : Met l yX0_init wsX0_init ({ frames := 1, cells := 1, slots := 48, locals := 12 } : Room) (va_Pc [.ref h0] (wn_B D sz [(h0, .inr (0, [.null, .int 0]))] [(cI, .int), (cZ, .boolean)])) (va_Qv (fun w1 : va_W => ∃ q7 : Nat, w1 = [(h0, .inr (0, [.ref q7, .int 0])), (q7, .inl (cI, 48, .inl (fun _ => 0)))]) (fun w1 t => va_P D vwCl w1 t.heap ∧ va_D (va_A [(h0, .inr (0, [.null, .int 0]))] sz) w1) (va_A [(h0, .inr (0, [.null, .int 0]))] sz)) 1 48 (va_A [(h0, .inr (0, [.null, .int 0]))] sz) := by
  refine Met.ofW (cc := cX0_init) (maxL := 1) (ret := none) (by decide) rfl ?_
  intro p e s m args below meth c s₁ B hml hv
  obtain ⟨rfl, hsz, hP, hK, hN, hD0⟩ := hv
  have hx := B.exec
  have hb := B.bytes
  have hr := B.returns
  have hts := atoms_spec (ws := wsX0_init) B.pre
  have hown : s.vm.findClass RX0 = some m.cls := findClass_of_methodNamed B.named
  have hlocks := B.notSynchronized
  have hin : meth.name = "<init>" := (name_of_methodNamed B.named B.method).1
  subst hsz
  have hD := hD0.self (sz := s.heap.size)
  generalize hAe : va_A [(h0, .inr (0, [.null, .int 0]))] s.heap.size = A at hD ⊢
  have hA : ∀ q : Nat, s.heap.size ≤ q → A q := fun q h => by rw [← hAe]; exact Or.inr h
  have hS : va_S A s.heap s.heap [] := va_S.rf
  have hP : va_P D vwCl [(h0, .inr (0, [.null, .int 0]))] s.heap := hP
  have hl := lv_entry ([.ref h0]) (n := 1) (Nat.le_of_ble_eq_true rfl)
  rw [lg_entry_eq]
  generalize (lg_sl ([.ref h0]) ++ List.replicate (1 - (lg_sl ([.ref h0])).length) Slot.unset).toArray = ls at hl ⊢
  have hl : lv_has ls 1 [(0, .ref h0)] := hl
  refine lv_aload_n hx hb dX0_init_0 rfl (lv_at hl 0 rfl) ?_
  refine W.objInit hx hb hown (hts (.methodLink RX0 3 objectInit) (by decide +kernel)) (hts (.instanceMethod objectInit) (by decide +kernel)) (hts (.code objectInit ⟨#[0xb1]⟩ 1 none) (by decide +kernel)) rfl (by rw [hml]; exact hl.1) rfl dX0_init_1 (Nat.le_of_ble_eq_true rfl) (Nat.le_of_ble_eq_true rfl) ?_
  refine W.eq (g2 := F0 m 4 ls []) rfl ?_
  have hinw : ∀ w ∈ u_ws RX0 TX0 2, w ∈ wsX0_init := by decide +kernel
  refine lv_aload_n hx hb dX0_init_4 rfl (lv_at hl 0 rfl) ?_
  refine lv_bipush (v := 48) hx hb dX0_init_5 (by decide) ?_
  refine va_newa (atype := .int) (ty := .int) (N' := 48) (a0 := (48, .inl (fun _ => 0))) hx hb (hts (.arrayClass .int) (by decide +kernel)) rfl hK hP hD hS hA (fun _ => rfl) (by decide) (by decide) (by show 48 * _ ≤ 536870912; exact Nat.le_of_ble_eq_true rfl) (Nat.le_of_ble_eq_true rfl) (Nat.le_of_ble_eq_true rfl) dX0_init_7 (fun q7 cA9 H hK9 hP hD hS => ?_)
  have ec9 : cA9 = cI := K_uni hK9 (k := 0) rfl (fun C h => by cases h)
  rw [ec9] at hP hD
  have hP : va_P D vwCl [(h0, .inr (0, [.null, .int 0])), (q7, .inl (cI, 48, .inl (fun _ => 0)))] H := hP
  have hD : va_D A [(h0, .inr (0, [.null, .int 0])), (q7, .inl (cI, 48, .inl (fun _ => 0)))] := hD
  refine W.widen (k := 1) (n := 48) (by omega) (by omega) ?_
  refine va_putF (D := D) (ci := 0) (v := .ref q7) (ty := (.array .int)) (C := RX0) (T := TX0) (N := 2) hx hb hts hinw tyX0 tyX0_ok nmX0 hown hK hP hD hS 0 rfl rfl 0 (by decide) (hts (.fieldLink RX0 11 "CornerLabels$Board" "cells" "[I") (by decide +kernel)) (fun _ h9 => h9) rfl hin rfl (by decide +kernel) rfl rfl (Nat.le_of_ble_eq_true rfl) dX0_init_9 (fun H locs hP hD hS => ?_)
  have hP : va_P D vwCl [(h0, .inr (0, [.ref q7, .int 0])), (q7, .inl (cI, 48, .inl (fun _ => 0)))] H := hP
  have hD : va_D A [(h0, .inr (0, [.ref q7, .int 0])), (q7, .inl (cI, 48, .inl (fun _ => 0)))] := hD
  refine lv_aload_n hx hb dX0_init_12 rfl (lv_at hl 0 rfl) ?_
  refine lv_iconst (v := 0) hx hb dX0_init_13 (by decide) ?_
  refine va_put (D := D) (ci := 0) (v := .int 0) (ty := .int) (C := RX0) (T := TX0) (N := 2) hx hb hts hinw tyX0 tyX0_ok nmX0 hown hK hP hD hS 0 rfl rfl 1 (by decide) (hts (.fieldLink RX0 15 "CornerLabels$Board" "points" "I") (by decide +kernel)) (fun _ h9 => h9) rfl (by decide +kernel) rfl rfl (Nat.le_of_ble_eq_true rfl) dX0_init_14 (fun H locs hP hD hS => ?_)
  have hP : va_P D vwCl [(h0, .inr (0, [.ref q7, .int 0])), (q7, .inl (cI, 48, .inl (fun _ => 0)))] H := hP
  have hD : va_D A [(h0, .inr (0, [.ref q7, .int 0])), (q7, .inl (cI, 48, .inl (fun _ => 0)))] := hD
  exact W.vret hx hb hr (fun t ht hW => ⟨⟨_, rfl, ⟨q7, rfl⟩, by rw [ht]; exact hP, hD⟩, hS.F ht⟩) hS.2.2 dX0_init_17
set_option maxHeartbeats 4000000 in
set_option maxRecDepth 100000 in
theorem c_X1_init (l : Launch) (D : va_G) {h0 sz : Nat} {cI cZ : ClassId} : Met l yX1_init wsX1_init ({ frames := 1, cells := 2, slots := 294, locals := 12 } : Room) (va_Pc [.ref h0] (wn_B D sz [(h0, .inr (1, [.null, .null, .int 0]))] [(cI, .int), (cZ, .boolean)])) (va_Qv (fun w1 : va_W => ∃ q8 q16 : Nat, w1 = [(h0, .inr (1, [.ref q8, .ref q16, .int 0])), (q8, .inl (cI, 288, .inl (fun _ => 0))), (q16, .inl (cI, 6, .inl (fun _ => 0)))]) (fun w1 t => va_P D vwCl w1 t.heap ∧ va_D (va_A [(h0, .inr (1, [.null, .null, .int 0]))] sz) w1) (va_A [(h0, .inr (1, [.null, .null, .int 0]))] sz)) 2 294 (va_A [(h0, .inr (1, [.null, .null, .int 0]))] sz) := by
  refine Met.ofW (cc := cX1_init) (maxL := 1) (ret := none) (by decide) rfl ?_
  intro p e s m args below meth c s₁ B hml hv
  obtain ⟨rfl, hsz, hP, hK, hN, hD0⟩ := hv
  have hx := B.exec
  have hb := B.bytes
  have hr := B.returns
  have hts := atoms_spec (ws := wsX1_init) B.pre
  have hown : s.vm.findClass RX1 = some m.cls := findClass_of_methodNamed B.named
  have hlocks := B.notSynchronized
  have hin : meth.name = "<init>" := (name_of_methodNamed B.named B.method).1
  subst hsz
  have hD := hD0.self (sz := s.heap.size)
  generalize hAe : va_A [(h0, .inr (1, [.null, .null, .int 0]))] s.heap.size = A at hD ⊢
  have hA : ∀ q : Nat, s.heap.size ≤ q → A q := fun q h => by rw [← hAe]; exact Or.inr h
  have hS : va_S A s.heap s.heap [] := va_S.rf
  have hP : va_P D vwCl [(h0, .inr (1, [.null, .null, .int 0]))] s.heap := hP
  have hl := lv_entry ([.ref h0]) (n := 1) (Nat.le_of_ble_eq_true rfl)
  rw [lg_entry_eq]
  generalize (lg_sl ([.ref h0]) ++ List.replicate (1 - (lg_sl ([.ref h0])).length) Slot.unset).toArray = ls at hl ⊢
  have hl : lv_has ls 1 [(0, .ref h0)] := hl
  refine lv_aload_n hx hb dX1_init_0 rfl (lv_at hl 0 rfl) ?_
  refine W.objInit hx hb hown (hts (.methodLink RX1 3 objectInit) (by decide +kernel)) (hts (.instanceMethod objectInit) (by decide +kernel)) (hts (.code objectInit ⟨#[0xb1]⟩ 1 none) (by decide +kernel)) rfl (by rw [hml]; exact hl.1) rfl dX1_init_1 (Nat.le_of_ble_eq_true rfl) (Nat.le_of_ble_eq_true rfl) ?_
  refine W.eq (g2 := F0 m 4 ls []) rfl ?_
  have hinw : ∀ w ∈ u_ws RX1 TX1 3, w ∈ wsX1_init := by decide +kernel
  refine lv_aload_n hx hb dX1_init_4 rfl (lv_at hl 0 rfl) ?_
  refine lv_sipush (v := 288) hx hb dX1_init_5 (by decide) ?_
  refine va_newa (atype := .int) (ty := .int) (N' := 288) (a0 := (288, .inl (fun _ => 0))) hx hb (hts (.arrayClass .int) (by decide +kernel)) rfl hK hP hD hS hA (fun _ => rfl) (by decide) (by decide) (by show 288 * _ ≤ 536870912; exact Nat.le_of_ble_eq_true rfl) (Nat.le_of_ble_eq_true rfl) (Nat.le_of_ble_eq_true rfl) dX1_init_8 (fun q8 cA9 H hK9 hP hD hS => ?_)
  have ec9 : cA9 = cI := K_uni hK9 (k := 0) rfl (fun C h => by cases h)
  rw [ec9] at hP hD
  have hP : va_P D vwCl [(h0, .inr (1, [.null, .null, .int 0])), (q8, .inl (cI, 288, .inl (fun _ => 0)))] H := hP
  have hD : va_D A [(h0, .inr (1, [.null, .null, .int 0])), (q8, .inl (cI, 288, .inl (fun _ => 0)))] := hD
  refine W.widen (k := 1) (n := 288) (by omega) (by omega) ?_
  refine va_putF (D := D) (ci := 1) (v := .ref q8) (ty := (.array .int)) (C := RX1) (T := TX1) (N := 3) hx hb hts hinw tyX1 tyX1_ok nmX1 hown hK hP hD hS 0 rfl rfl 0 (by decide) (hts (.fieldLink RX1 11 "CornerLabels$History" "cells" "[I") (by decide +kernel)) (fun _ h9 => h9) rfl hin rfl (by decide +kernel) rfl rfl (Nat.le_of_ble_eq_true rfl) dX1_init_10 (fun H locs hP hD hS => ?_)
  have hP : va_P D vwCl [(h0, .inr (1, [.ref q8, .null, .int 0])), (q8, .inl (cI, 288, .inl (fun _ => 0)))] H := hP
  have hD : va_D A [(h0, .inr (1, [.ref q8, .null, .int 0])), (q8, .inl (cI, 288, .inl (fun _ => 0)))] := hD
  refine lv_aload_n hx hb dX1_init_13 rfl (lv_at hl 0 rfl) ?_
  refine lv_bipush (v := 6) hx hb dX1_init_14 (by decide) ?_
  refine va_newa (atype := .int) (ty := .int) (N' := 6) (a0 := (6, .inl (fun _ => 0))) hx hb (hts (.arrayClass .int) (by decide +kernel)) rfl hK hP hD hS hA (fun _ => rfl) (by decide) (by decide) (by show 6 * _ ≤ 536870912; exact Nat.le_of_ble_eq_true rfl) (Nat.le_of_ble_eq_true rfl) (Nat.le_of_ble_eq_true rfl) dX1_init_16 (fun q16 cA9 H hK9 hP hD hS => ?_)
  have ec9 : cA9 = cI := K_uni hK9 (k := 0) rfl (fun C h => by cases h)
  rw [ec9] at hP hD
  have hP : va_P D vwCl [(h0, .inr (1, [.ref q8, .null, .int 0])), (q8, .inl (cI, 288, .inl (fun _ => 0))), (q16, .inl (cI, 6, .inl (fun _ => 0)))] H := hP
  have hD : va_D A [(h0, .inr (1, [.ref q8, .null, .int 0])), (q8, .inl (cI, 288, .inl (fun _ => 0))), (q16, .inl (cI, 6, .inl (fun _ => 0)))] := hD
  refine W.widen (k := 2) (n := 294) (by omega) (by omega) ?_
  refine va_putF (D := D) (ci := 1) (v := .ref q16) (ty := (.array .int)) (C := RX1) (T := TX1) (N := 3) hx hb hts hinw tyX1 tyX1_ok nmX1 hown hK hP hD hS 0 rfl rfl 1 (by decide) (hts (.fieldLink RX1 17 "CornerLabels$History" "points" "[I") (by decide +kernel)) (fun _ h9 => h9) rfl hin rfl (by decide +kernel) rfl rfl (Nat.le_of_ble_eq_true rfl) dX1_init_18 (fun H locs hP hD hS => ?_)
  have hP : va_P D vwCl [(h0, .inr (1, [.ref q8, .ref q16, .int 0])), (q8, .inl (cI, 288, .inl (fun _ => 0))), (q16, .inl (cI, 6, .inl (fun _ => 0)))] H := hP
  have hD : va_D A [(h0, .inr (1, [.ref q8, .ref q16, .int 0])), (q8, .inl (cI, 288, .inl (fun _ => 0))), (q16, .inl (cI, 6, .inl (fun _ => 0)))] := hD
  refine lv_aload_n hx hb dX1_init_21 rfl (lv_at hl 0 rfl) ?_
  refine lv_iconst (v := 0) hx hb dX1_init_22 (by decide) ?_
  refine va_put (D := D) (ci := 1) (v := .int 0) (ty := .int) (C := RX1) (T := TX1) (N := 3) hx hb hts hinw tyX1 tyX1_ok nmX1 hown hK hP hD hS 0 rfl rfl 2 (by decide) (hts (.fieldLink RX1 20 "CornerLabels$History" "states" "I") (by decide +kernel)) (fun _ h9 => h9) rfl (by decide +kernel) rfl rfl (Nat.le_of_ble_eq_true rfl) dX1_init_23 (fun H locs hP hD hS => ?_)
  have hP : va_P D vwCl [(h0, .inr (1, [.ref q8, .ref q16, .int 0])), (q8, .inl (cI, 288, .inl (fun _ => 0))), (q16, .inl (cI, 6, .inl (fun _ => 0)))] H := hP
  have hD : va_D A [(h0, .inr (1, [.ref q8, .ref q16, .int 0])), (q8, .inl (cI, 288, .inl (fun _ => 0))), (q16, .inl (cI, 6, .inl (fun _ => 0)))] := hD
  exact W.vret hx hb hr (fun t ht hW => ⟨⟨_, rfl, ⟨q8, q16, rfl⟩, by rw [ht]; exact hP, hD⟩, hS.F ht⟩) hS.2.2 dX1_init_26
set_option maxHeartbeats 4000000 in
set_option maxRecDepth 100000 in
theorem c_X3_init (l : Launch) (D : va_G) {h0 sz : Nat} {cI cZ : ClassId} : Met l yX3_init wsX3_init ({ frames := 1, cells := 2, slots := 100, locals := 12 } : Room) (va_Pc [.ref h0] (wn_B D sz [(h0, .inr (3, [.null, .int 0, .null, .int 0, .int 0, .int 0]))] [(cI, .int), (cZ, .boolean)])) (va_Qv (fun w1 : va_W => ∃ q7 q20 : Nat, w1 = [(h0, .inr (3, [.ref q7, .int 0, .ref q20, .int 0, .int 0, .int (-1)])), (q7, .inl (cI, 60, .inl (fun _ => 0))), (q20, .inl (cI, 40, .inl (fun _ => 0)))]) (fun w1 t => va_P D vwCl w1 t.heap ∧ va_D (va_A [(h0, .inr (3, [.null, .int 0, .null, .int 0, .int 0, .int 0]))] sz) w1) (va_A [(h0, .inr (3, [.null, .int 0, .null, .int 0, .int 0, .int 0]))] sz)) 2 100 (va_A [(h0, .inr (3, [.null, .int 0, .null, .int 0, .int 0, .int 0]))] sz) := by
  refine Met.ofW (cc := cX3_init) (maxL := 1) (ret := none) (by decide) rfl ?_
  intro p e s m args below meth c s₁ B hml hv
  obtain ⟨rfl, hsz, hP, hK, hN, hD0⟩ := hv
  have hx := B.exec
  have hb := B.bytes
  have hr := B.returns
  have hts := atoms_spec (ws := wsX3_init) B.pre
  have hown : s.vm.findClass RX3 = some m.cls := findClass_of_methodNamed B.named
  have hlocks := B.notSynchronized
  have hin : meth.name = "<init>" := (name_of_methodNamed B.named B.method).1
  subst hsz
  have hD := hD0.self (sz := s.heap.size)
  generalize hAe : va_A [(h0, .inr (3, [.null, .int 0, .null, .int 0, .int 0, .int 0]))] s.heap.size = A at hD ⊢
  have hA : ∀ q : Nat, s.heap.size ≤ q → A q := fun q h => by rw [← hAe]; exact Or.inr h
  have hS : va_S A s.heap s.heap [] := va_S.rf
  have hP : va_P D vwCl [(h0, .inr (3, [.null, .int 0, .null, .int 0, .int 0, .int 0]))] s.heap := hP
  have hl := lv_entry ([.ref h0]) (n := 1) (Nat.le_of_ble_eq_true rfl)
  rw [lg_entry_eq]
  generalize (lg_sl ([.ref h0]) ++ List.replicate (1 - (lg_sl ([.ref h0])).length) Slot.unset).toArray = ls at hl ⊢
  have hl : lv_has ls 1 [(0, .ref h0)] := hl
  refine lv_aload_n hx hb dX3_init_0 rfl (lv_at hl 0 rfl) ?_
  refine W.objInit hx hb hown (hts (.methodLink RX3 3 objectInit) (by decide +kernel)) (hts (.instanceMethod objectInit) (by decide +kernel)) (hts (.code objectInit ⟨#[0xb1]⟩ 1 none) (by decide +kernel)) rfl (by rw [hml]; exact hl.1) rfl dX3_init_1 (Nat.le_of_ble_eq_true rfl) (Nat.le_of_ble_eq_true rfl) ?_
  refine W.eq (g2 := F0 m 4 ls []) rfl ?_
  have hinw : ∀ w ∈ u_ws RX3 TX3 6, w ∈ wsX3_init := by decide +kernel
  refine lv_aload_n hx hb dX3_init_4 rfl (lv_at hl 0 rfl) ?_
  refine lv_bipush (v := 60) hx hb dX3_init_5 (by decide) ?_
  refine va_newa (atype := .int) (ty := .int) (N' := 60) (a0 := (60, .inl (fun _ => 0))) hx hb (hts (.arrayClass .int) (by decide +kernel)) rfl hK hP hD hS hA (fun _ => rfl) (by decide) (by decide) (by show 60 * _ ≤ 536870912; exact Nat.le_of_ble_eq_true rfl) (Nat.le_of_ble_eq_true rfl) (Nat.le_of_ble_eq_true rfl) dX3_init_7 (fun q7 cA9 H hK9 hP hD hS => ?_)
  have ec9 : cA9 = cI := K_uni hK9 (k := 0) rfl (fun C h => by cases h)
  rw [ec9] at hP hD
  have hP : va_P D vwCl [(h0, .inr (3, [.null, .int 0, .null, .int 0, .int 0, .int 0])), (q7, .inl (cI, 60, .inl (fun _ => 0)))] H := hP
  have hD : va_D A [(h0, .inr (3, [.null, .int 0, .null, .int 0, .int 0, .int 0])), (q7, .inl (cI, 60, .inl (fun _ => 0)))] := hD
  refine W.widen (k := 1) (n := 60) (by omega) (by omega) ?_
  refine va_putF (D := D) (ci := 3) (v := .ref q7) (ty := (.array .int)) (C := RX3) (T := TX3) (N := 6) hx hb hts hinw tyX3 tyX3_ok nmX3 hown hK hP hD hS 0 rfl rfl 0 (by decide) (hts (.fieldLink RX3 9 "CornerLabels$Typed" "codes" "[I") (by decide +kernel)) (fun _ h9 => h9) rfl hin rfl (by decide +kernel) rfl rfl (Nat.le_of_ble_eq_true rfl) dX3_init_9 (fun H locs hP hD hS => ?_)
  have hP : va_P D vwCl [(h0, .inr (3, [.ref q7, .int 0, .null, .int 0, .int 0, .int 0])), (q7, .inl (cI, 60, .inl (fun _ => 0)))] H := hP
  have hD : va_D A [(h0, .inr (3, [.ref q7, .int 0, .null, .int 0, .int 0, .int 0])), (q7, .inl (cI, 60, .inl (fun _ => 0)))] := hD
  refine lv_aload_n hx hb dX3_init_12 rfl (lv_at hl 0 rfl) ?_
  refine lv_iconst (v := 0) hx hb dX3_init_13 (by decide) ?_
  refine va_put (D := D) (ci := 3) (v := .int 0) (ty := .int) (C := RX3) (T := TX3) (N := 6) hx hb hts hinw tyX3 tyX3_ok nmX3 hown hK hP hD hS 0 rfl rfl 1 (by decide) (hts (.fieldLink RX3 15 "CornerLabels$Typed" "length" "I") (by decide +kernel)) (fun _ h9 => h9) rfl (by decide +kernel) rfl rfl (Nat.le_of_ble_eq_true rfl) dX3_init_14 (fun H locs hP hD hS => ?_)
  have hP : va_P D vwCl [(h0, .inr (3, [.ref q7, .int 0, .null, .int 0, .int 0, .int 0])), (q7, .inl (cI, 60, .inl (fun _ => 0)))] H := hP
  have hD : va_D A [(h0, .inr (3, [.ref q7, .int 0, .null, .int 0, .int 0, .int 0])), (q7, .inl (cI, 60, .inl (fun _ => 0)))] := hD
  refine lv_aload_n hx hb dX3_init_17 rfl (lv_at hl 0 rfl) ?_
  refine lv_bipush (v := 40) hx hb dX3_init_18 (by decide) ?_
  refine va_newa (atype := .int) (ty := .int) (N' := 40) (a0 := (40, .inl (fun _ => 0))) hx hb (hts (.arrayClass .int) (by decide +kernel)) rfl hK hP hD hS hA (fun _ => rfl) (by decide) (by decide) (by show 40 * _ ≤ 536870912; exact Nat.le_of_ble_eq_true rfl) (Nat.le_of_ble_eq_true rfl) (Nat.le_of_ble_eq_true rfl) dX3_init_20 (fun q20 cA9 H hK9 hP hD hS => ?_)
  have ec9 : cA9 = cI := K_uni hK9 (k := 0) rfl (fun C h => by cases h)
  rw [ec9] at hP hD
  have hP : va_P D vwCl [(h0, .inr (3, [.ref q7, .int 0, .null, .int 0, .int 0, .int 0])), (q7, .inl (cI, 60, .inl (fun _ => 0))), (q20, .inl (cI, 40, .inl (fun _ => 0)))] H := hP
  have hD : va_D A [(h0, .inr (3, [.ref q7, .int 0, .null, .int 0, .int 0, .int 0])), (q7, .inl (cI, 60, .inl (fun _ => 0))), (q20, .inl (cI, 40, .inl (fun _ => 0)))] := hD
  refine W.widen (k := 2) (n := 100) (by omega) (by omega) ?_
  refine va_putF (D := D) (ci := 3) (v := .ref q20) (ty := (.array .int)) (C := RX3) (T := TX3) (N := 6) hx hb hts hinw tyX3 tyX3_ok nmX3 hown hK hP hD hS 0 rfl rfl 2 (by decide) (hts (.fieldLink RX3 19 "CornerLabels$Typed" "told" "[I") (by decide +kernel)) (fun _ h9 => h9) rfl hin rfl (by decide +kernel) rfl rfl (Nat.le_of_ble_eq_true rfl) dX3_init_22 (fun H locs hP hD hS => ?_)
  have hP : va_P D vwCl [(h0, .inr (3, [.ref q7, .int 0, .ref q20, .int 0, .int 0, .int 0])), (q7, .inl (cI, 60, .inl (fun _ => 0))), (q20, .inl (cI, 40, .inl (fun _ => 0)))] H := hP
  have hD : va_D A [(h0, .inr (3, [.ref q7, .int 0, .ref q20, .int 0, .int 0, .int 0])), (q7, .inl (cI, 60, .inl (fun _ => 0))), (q20, .inl (cI, 40, .inl (fun _ => 0)))] := hD
  refine lv_aload_n hx hb dX3_init_25 rfl (lv_at hl 0 rfl) ?_
  refine lv_iconst (v := 0) hx hb dX3_init_26 (by decide) ?_
  refine va_put (D := D) (ci := 3) (v := .int 0) (ty := .int) (C := RX3) (T := TX3) (N := 6) hx hb hts hinw tyX3 tyX3_ok nmX3 hown hK hP hD hS 0 rfl rfl 3 (by decide) (hts (.fieldLink RX3 22 "CornerLabels$Typed" "reading" "I") (by decide +kernel)) (fun _ h9 => h9) rfl (by decide +kernel) rfl rfl (Nat.le_of_ble_eq_true rfl) dX3_init_27 (fun H locs hP hD hS => ?_)
  have hP : va_P D vwCl [(h0, .inr (3, [.ref q7, .int 0, .ref q20, .int 0, .int 0, .int 0])), (q7, .inl (cI, 60, .inl (fun _ => 0))), (q20, .inl (cI, 40, .inl (fun _ => 0)))] H := hP
  have hD : va_D A [(h0, .inr (3, [.ref q7, .int 0, .ref q20, .int 0, .int 0, .int 0])), (q7, .inl (cI, 60, .inl (fun _ => 0))), (q20, .inl (cI, 40, .inl (fun _ => 0)))] := hD
  refine lv_aload_n hx hb dX3_init_30 rfl (lv_at hl 0 rfl) ?_
  refine lv_iconst (v := 0) hx hb dX3_init_31 (by decide) ?_
  refine va_put (D := D) (ci := 3) (v := .int 0) (ty := .int) (C := RX3) (T := TX3) (N := 6) hx hb hts hinw tyX3 tyX3_ok nmX3 hown hK hP hD hS 0 rfl rfl 4 (by decide) (hts (.fieldLink RX3 25 "CornerLabels$Typed" "part" "I") (by decide +kernel)) (fun _ h9 => h9) rfl (by decide +kernel) rfl rfl (Nat.le_of_ble_eq_true rfl) dX3_init_32 (fun H locs hP hD hS => ?_)
  have hP : va_P D vwCl [(h0, .inr (3, [.ref q7, .int 0, .ref q20, .int 0, .int 0, .int 0])), (q7, .inl (cI, 60, .inl (fun _ => 0))), (q20, .inl (cI, 40, .inl (fun _ => 0)))] H := hP
  have hD : va_D A [(h0, .inr (3, [.ref q7, .int 0, .ref q20, .int 0, .int 0, .int 0])), (q7, .inl (cI, 60, .inl (fun _ => 0))), (q20, .inl (cI, 40, .inl (fun _ => 0)))] := hD
  refine lv_aload_n hx hb dX3_init_35 rfl (lv_at hl 0 rfl) ?_
  refine lv_iconst (v := -1) hx hb dX3_init_36 (by decide) ?_
  refine va_put (D := D) (ci := 3) (v := .int (-1)) (ty := .int) (C := RX3) (T := TX3) (N := 6) hx hb hts hinw tyX3 tyX3_ok nmX3 hown hK hP hD hS 0 rfl rfl 5 (by decide) (hts (.fieldLink RX3 28 "CornerLabels$Typed" "value" "I") (by decide +kernel)) (fun _ h9 => h9) rfl (by decide +kernel) rfl rfl (Nat.le_of_ble_eq_true rfl) dX3_init_37 (fun H locs hP hD hS => ?_)
  have hP : va_P D vwCl [(h0, .inr (3, [.ref q7, .int 0, .ref q20, .int 0, .int 0, .int (-1)])), (q7, .inl (cI, 60, .inl (fun _ => 0))), (q20, .inl (cI, 40, .inl (fun _ => 0)))] H := hP
  have hD : va_D A [(h0, .inr (3, [.ref q7, .int 0, .ref q20, .int 0, .int 0, .int (-1)])), (q7, .inl (cI, 60, .inl (fun _ => 0))), (q20, .inl (cI, 40, .inl (fun _ => 0)))] := hD
  exact W.vret hx hb hr (fun t ht hW => ⟨⟨_, rfl, ⟨q7, q20, rfl⟩, by rw [ht]; exact hP, hD⟩, hS.F ht⟩) hS.2.2 dX3_init_40
set_option maxHeartbeats 4000000 in
set_option maxRecDepth 100000 in
theorem c_X2_init (l : Launch) (D : va_G) {h0 sz : Nat} {cI cZ : ClassId} : Met l yX2_init wsX2_init ({ frames := 1, cells := 13, slots := 153, locals := 12 } : Room) (va_Pc [.ref h0] (wn_B D sz [(h0, .inr (2, [.int 0, .null, .null, .null, .null, .null, .int 0, .null, .null, .null, .null, .null, .null, .int 0, .null, .int 0, .null]))] [(cI, .int), (cZ, .boolean)])) (va_Qv (fun w1 : va_W => ∃ q12 q20 q28 q36 q44 q57 q65 q73 q81 q89 q97 q110 q123 : Nat, w1 = [(h0, .inr (2, [.int 0, .ref q12, .ref q20, .ref q28, .ref q36, .ref q44, .int 0, .ref q57, .ref q65, .ref q73, .ref q81, .ref q89, .ref q97, .int (-1), .ref q110, .int 0, .ref q123])), (q12, .inl (cI, 8, .inl (fun _ => 0))), (q20, .inl (cI, 8, .inl (fun _ => 0))), (q28, .inl (cI, 8, .inl (fun _ => 0))), (q36, .inl (cI, 32, .inl (fun _ => 0))), (q44, .inl (cI, 8, .inl (fun _ => 0))), (q57, .inl (cZ, 8, .inl (fun _ => 0))), (q65, .inl (cI, 32, .inl (fun _ => 0))), (q73, .inl (cI, 8, .inl (fun _ => 0))), (q81, .inl (cI, 9, .inl (fun _ => 0))), (q89, .inl (cI, 8, .inl (fun _ => 0))), (q97, .inl (cI, 8, .inl (fun _ => 0))), (q110, .inl (cI, 8, .inl (fun _ => 0))), (q123, .inl (cI, 8, .inl (fun _ => 0)))]) (fun w1 t => va_P D vwCl w1 t.heap ∧ va_D (va_A [(h0, .inr (2, [.int 0, .null, .null, .null, .null, .null, .int 0, .null, .null, .null, .null, .null, .null, .int 0, .null, .int 0, .null]))] sz) w1) (va_A [(h0, .inr (2, [.int 0, .null, .null, .null, .null, .null, .int 0, .null, .null, .null, .null, .null, .null, .int 0, .null, .int 0, .null]))] sz)) 13 153 (va_A [(h0, .inr (2, [.int 0, .null, .null, .null, .null, .null, .int 0, .null, .null, .null, .null, .null, .null, .int 0, .null, .int 0, .null]))] sz) := by
  refine Met.ofW (cc := cX2_init) (maxL := 1) (ret := none) (by decide) rfl ?_
  intro p e s m args below meth c s₁ B hml hv
  obtain ⟨rfl, hsz, hP, hK, hN, hD0⟩ := hv
  have hx := B.exec
  have hb := B.bytes
  have hr := B.returns
  have hts := atoms_spec (ws := wsX2_init) B.pre
  have hown : s.vm.findClass RX2 = some m.cls := findClass_of_methodNamed B.named
  have hlocks := B.notSynchronized
  have hin : meth.name = "<init>" := (name_of_methodNamed B.named B.method).1
  subst hsz
  have hD := hD0.self (sz := s.heap.size)
  generalize hAe : va_A [(h0, .inr (2, [.int 0, .null, .null, .null, .null, .null, .int 0, .null, .null, .null, .null, .null, .null, .int 0, .null, .int 0, .null]))] s.heap.size = A at hD ⊢
  have hA : ∀ q : Nat, s.heap.size ≤ q → A q := fun q h => by rw [← hAe]; exact Or.inr h
  have hS : va_S A s.heap s.heap [] := va_S.rf
  have hP : va_P D vwCl [(h0, .inr (2, [.int 0, .null, .null, .null, .null, .null, .int 0, .null, .null, .null, .null, .null, .null, .int 0, .null, .int 0, .null]))] s.heap := hP
  have hl := lv_entry ([.ref h0]) (n := 1) (Nat.le_of_ble_eq_true rfl)
  rw [lg_entry_eq]
  generalize (lg_sl ([.ref h0]) ++ List.replicate (1 - (lg_sl ([.ref h0])).length) Slot.unset).toArray = ls at hl ⊢
  have hl : lv_has ls 1 [(0, .ref h0)] := hl
  refine lv_aload_n hx hb dX2_init_0 rfl (lv_at hl 0 rfl) ?_
  refine W.objInit hx hb hown (hts (.methodLink RX2 3 objectInit) (by decide +kernel)) (hts (.instanceMethod objectInit) (by decide +kernel)) (hts (.code objectInit ⟨#[0xb1]⟩ 1 none) (by decide +kernel)) rfl (by rw [hml]; exact hl.1) rfl dX2_init_1 (Nat.le_of_ble_eq_true rfl) (Nat.le_of_ble_eq_true rfl) ?_
  refine W.eq (g2 := F0 m 4 ls []) rfl ?_
  have hinw : ∀ w ∈ u_ws RX2 TX2 17, w ∈ wsX2_init := by decide +kernel
  refine lv_aload_n hx hb dX2_init_4 rfl (lv_at hl 0 rfl) ?_
  refine lv_iconst (v := 0) hx hb dX2_init_5 (by decide) ?_
  refine va_put (D := D) (ci := 2) (v := .int 0) (ty := .int) (C := RX2) (T := TX2) (N := 17) hx hb hts hinw tyX2 tyX2_ok nmX2 hown hK hP hD hS 0 rfl rfl 0 (by decide) (hts (.fieldLink RX2 9 "CornerLabels$Plans" "points" "I") (by decide +kernel)) (fun _ h9 => h9) rfl (by decide +kernel) rfl rfl (Nat.le_of_ble_eq_true rfl) dX2_init_6 (fun H locs hP hD hS => ?_)
  have hP : va_P D vwCl [(h0, .inr (2, [.int 0, .null, .null, .null, .null, .null, .int 0, .null, .null, .null, .null, .null, .null, .int 0, .null, .int 0, .null]))] H := hP
  have hD : va_D A [(h0, .inr (2, [.int 0, .null, .null, .null, .null, .null, .int 0, .null, .null, .null, .null, .null, .null, .int 0, .null, .int 0, .null]))] := hD
  refine lv_aload_n hx hb dX2_init_9 rfl (lv_at hl 0 rfl) ?_
  refine lv_bipush (v := 8) hx hb dX2_init_10 (by decide) ?_
  refine va_newa (atype := .int) (ty := .int) (N' := 8) (a0 := (8, .inl (fun _ => 0))) hx hb (hts (.arrayClass .int) (by decide +kernel)) rfl hK hP hD hS hA (fun _ => rfl) (by decide) (by decide) (by show 8 * _ ≤ 536870912; exact Nat.le_of_ble_eq_true rfl) (Nat.le_of_ble_eq_true rfl) (Nat.le_of_ble_eq_true rfl) dX2_init_12 (fun q12 cA9 H hK9 hP hD hS => ?_)
  have ec9 : cA9 = cI := K_uni hK9 (k := 0) rfl (fun C h => by cases h)
  rw [ec9] at hP hD
  have hP : va_P D vwCl [(h0, .inr (2, [.int 0, .null, .null, .null, .null, .null, .int 0, .null, .null, .null, .null, .null, .null, .int 0, .null, .int 0, .null])), (q12, .inl (cI, 8, .inl (fun _ => 0)))] H := hP
  have hD : va_D A [(h0, .inr (2, [.int 0, .null, .null, .null, .null, .null, .int 0, .null, .null, .null, .null, .null, .null, .int 0, .null, .int 0, .null])), (q12, .inl (cI, 8, .inl (fun _ => 0)))] := hD
  refine W.widen (k := 1) (n := 8) (by omega) (by omega) ?_
  refine va_putF (D := D) (ci := 2) (v := .ref q12) (ty := (.array .int)) (C := RX2) (T := TX2) (N := 17) hx hb hts hinw tyX2 tyX2_ok nmX2 hown hK hP hD hS 0 rfl rfl 1 (by decide) (hts (.fieldLink RX2 15 "CornerLabels$Plans" "open" "[I") (by decide +kernel)) (fun _ h9 => h9) rfl hin rfl (by decide +kernel) rfl rfl (Nat.le_of_ble_eq_true rfl) dX2_init_14 (fun H locs hP hD hS => ?_)
  have hP : va_P D vwCl [(h0, .inr (2, [.int 0, .ref q12, .null, .null, .null, .null, .int 0, .null, .null, .null, .null, .null, .null, .int 0, .null, .int 0, .null])), (q12, .inl (cI, 8, .inl (fun _ => 0)))] H := hP
  have hD : va_D A [(h0, .inr (2, [.int 0, .ref q12, .null, .null, .null, .null, .int 0, .null, .null, .null, .null, .null, .null, .int 0, .null, .int 0, .null])), (q12, .inl (cI, 8, .inl (fun _ => 0)))] := hD
  refine lv_aload_n hx hb dX2_init_17 rfl (lv_at hl 0 rfl) ?_
  refine lv_bipush (v := 8) hx hb dX2_init_18 (by decide) ?_
  refine va_newa (atype := .int) (ty := .int) (N' := 8) (a0 := (8, .inl (fun _ => 0))) hx hb (hts (.arrayClass .int) (by decide +kernel)) rfl hK hP hD hS hA (fun _ => rfl) (by decide) (by decide) (by show 8 * _ ≤ 536870912; exact Nat.le_of_ble_eq_true rfl) (Nat.le_of_ble_eq_true rfl) (Nat.le_of_ble_eq_true rfl) dX2_init_20 (fun q20 cA9 H hK9 hP hD hS => ?_)
  have ec9 : cA9 = cI := K_uni hK9 (k := 0) rfl (fun C h => by cases h)
  rw [ec9] at hP hD
  have hP : va_P D vwCl [(h0, .inr (2, [.int 0, .ref q12, .null, .null, .null, .null, .int 0, .null, .null, .null, .null, .null, .null, .int 0, .null, .int 0, .null])), (q12, .inl (cI, 8, .inl (fun _ => 0))), (q20, .inl (cI, 8, .inl (fun _ => 0)))] H := hP
  have hD : va_D A [(h0, .inr (2, [.int 0, .ref q12, .null, .null, .null, .null, .int 0, .null, .null, .null, .null, .null, .null, .int 0, .null, .int 0, .null])), (q12, .inl (cI, 8, .inl (fun _ => 0))), (q20, .inl (cI, 8, .inl (fun _ => 0)))] := hD
  refine W.widen (k := 2) (n := 16) (by omega) (by omega) ?_
  refine va_putF (D := D) (ci := 2) (v := .ref q20) (ty := (.array .int)) (C := RX2) (T := TX2) (N := 17) hx hb hts hinw tyX2 tyX2_ok nmX2 hown hK hP hD hS 0 rfl rfl 2 (by decide) (hts (.fieldLink RX2 19 "CornerLabels$Plans" "weight" "[I") (by decide +kernel)) (fun _ h9 => h9) rfl hin rfl (by decide +kernel) rfl rfl (Nat.le_of_ble_eq_true rfl) dX2_init_22 (fun H locs hP hD hS => ?_)
  have hP : va_P D vwCl [(h0, .inr (2, [.int 0, .ref q12, .ref q20, .null, .null, .null, .int 0, .null, .null, .null, .null, .null, .null, .int 0, .null, .int 0, .null])), (q12, .inl (cI, 8, .inl (fun _ => 0))), (q20, .inl (cI, 8, .inl (fun _ => 0)))] H := hP
  have hD : va_D A [(h0, .inr (2, [.int 0, .ref q12, .ref q20, .null, .null, .null, .int 0, .null, .null, .null, .null, .null, .null, .int 0, .null, .int 0, .null])), (q12, .inl (cI, 8, .inl (fun _ => 0))), (q20, .inl (cI, 8, .inl (fun _ => 0)))] := hD
  refine lv_aload_n hx hb dX2_init_25 rfl (lv_at hl 0 rfl) ?_
  refine lv_bipush (v := 8) hx hb dX2_init_26 (by decide) ?_
  refine va_newa (atype := .int) (ty := .int) (N' := 8) (a0 := (8, .inl (fun _ => 0))) hx hb (hts (.arrayClass .int) (by decide +kernel)) rfl hK hP hD hS hA (fun _ => rfl) (by decide) (by decide) (by show 8 * _ ≤ 536870912; exact Nat.le_of_ble_eq_true rfl) (Nat.le_of_ble_eq_true rfl) (Nat.le_of_ble_eq_true rfl) dX2_init_28 (fun q28 cA9 H hK9 hP hD hS => ?_)
  have ec9 : cA9 = cI := K_uni hK9 (k := 0) rfl (fun C h => by cases h)
  rw [ec9] at hP hD
  have hP : va_P D vwCl [(h0, .inr (2, [.int 0, .ref q12, .ref q20, .null, .null, .null, .int 0, .null, .null, .null, .null, .null, .null, .int 0, .null, .int 0, .null])), (q12, .inl (cI, 8, .inl (fun _ => 0))), (q20, .inl (cI, 8, .inl (fun _ => 0))), (q28, .inl (cI, 8, .inl (fun _ => 0)))] H := hP
  have hD : va_D A [(h0, .inr (2, [.int 0, .ref q12, .ref q20, .null, .null, .null, .int 0, .null, .null, .null, .null, .null, .null, .int 0, .null, .int 0, .null])), (q12, .inl (cI, 8, .inl (fun _ => 0))), (q20, .inl (cI, 8, .inl (fun _ => 0))), (q28, .inl (cI, 8, .inl (fun _ => 0)))] := hD
  refine W.widen (k := 3) (n := 24) (by omega) (by omega) ?_
  refine va_putF (D := D) (ci := 2) (v := .ref q28) (ty := (.array .int)) (C := RX2) (T := TX2) (N := 17) hx hb hts hinw tyX2 tyX2_ok nmX2 hown hK hP hD hS 0 rfl rfl 3 (by decide) (hts (.fieldLink RX2 22 "CornerLabels$Plans" "now" "[I") (by decide +kernel)) (fun _ h9 => h9) rfl hin rfl (by decide +kernel) rfl rfl (Nat.le_of_ble_eq_true rfl) dX2_init_30 (fun H locs hP hD hS => ?_)
  have hP : va_P D vwCl [(h0, .inr (2, [.int 0, .ref q12, .ref q20, .ref q28, .null, .null, .int 0, .null, .null, .null, .null, .null, .null, .int 0, .null, .int 0, .null])), (q12, .inl (cI, 8, .inl (fun _ => 0))), (q20, .inl (cI, 8, .inl (fun _ => 0))), (q28, .inl (cI, 8, .inl (fun _ => 0)))] H := hP
  have hD : va_D A [(h0, .inr (2, [.int 0, .ref q12, .ref q20, .ref q28, .null, .null, .int 0, .null, .null, .null, .null, .null, .null, .int 0, .null, .int 0, .null])), (q12, .inl (cI, 8, .inl (fun _ => 0))), (q20, .inl (cI, 8, .inl (fun _ => 0))), (q28, .inl (cI, 8, .inl (fun _ => 0)))] := hD
  refine lv_aload_n hx hb dX2_init_33 rfl (lv_at hl 0 rfl) ?_
  refine lv_bipush (v := 32) hx hb dX2_init_34 (by decide) ?_
  refine va_newa (atype := .int) (ty := .int) (N' := 32) (a0 := (32, .inl (fun _ => 0))) hx hb (hts (.arrayClass .int) (by decide +kernel)) rfl hK hP hD hS hA (fun _ => rfl) (by decide) (by decide) (by show 32 * _ ≤ 536870912; exact Nat.le_of_ble_eq_true rfl) (Nat.le_of_ble_eq_true rfl) (Nat.le_of_ble_eq_true rfl) dX2_init_36 (fun q36 cA9 H hK9 hP hD hS => ?_)
  have ec9 : cA9 = cI := K_uni hK9 (k := 0) rfl (fun C h => by cases h)
  rw [ec9] at hP hD
  have hP : va_P D vwCl [(h0, .inr (2, [.int 0, .ref q12, .ref q20, .ref q28, .null, .null, .int 0, .null, .null, .null, .null, .null, .null, .int 0, .null, .int 0, .null])), (q12, .inl (cI, 8, .inl (fun _ => 0))), (q20, .inl (cI, 8, .inl (fun _ => 0))), (q28, .inl (cI, 8, .inl (fun _ => 0))), (q36, .inl (cI, 32, .inl (fun _ => 0)))] H := hP
  have hD : va_D A [(h0, .inr (2, [.int 0, .ref q12, .ref q20, .ref q28, .null, .null, .int 0, .null, .null, .null, .null, .null, .null, .int 0, .null, .int 0, .null])), (q12, .inl (cI, 8, .inl (fun _ => 0))), (q20, .inl (cI, 8, .inl (fun _ => 0))), (q28, .inl (cI, 8, .inl (fun _ => 0))), (q36, .inl (cI, 32, .inl (fun _ => 0)))] := hD
  refine W.widen (k := 4) (n := 56) (by omega) (by omega) ?_
  refine va_putF (D := D) (ci := 2) (v := .ref q36) (ty := (.array .int)) (C := RX2) (T := TX2) (N := 17) hx hb hts hinw tyX2 tyX2_ok nmX2 hown hK hP hD hS 0 rfl rfl 4 (by decide) (hts (.fieldLink RX2 25 "CornerLabels$Plans" "clashing" "[I") (by decide +kernel)) (fun _ h9 => h9) rfl hin rfl (by decide +kernel) rfl rfl (Nat.le_of_ble_eq_true rfl) dX2_init_38 (fun H locs hP hD hS => ?_)
  have hP : va_P D vwCl [(h0, .inr (2, [.int 0, .ref q12, .ref q20, .ref q28, .ref q36, .null, .int 0, .null, .null, .null, .null, .null, .null, .int 0, .null, .int 0, .null])), (q12, .inl (cI, 8, .inl (fun _ => 0))), (q20, .inl (cI, 8, .inl (fun _ => 0))), (q28, .inl (cI, 8, .inl (fun _ => 0))), (q36, .inl (cI, 32, .inl (fun _ => 0)))] H := hP
  have hD : va_D A [(h0, .inr (2, [.int 0, .ref q12, .ref q20, .ref q28, .ref q36, .null, .int 0, .null, .null, .null, .null, .null, .null, .int 0, .null, .int 0, .null])), (q12, .inl (cI, 8, .inl (fun _ => 0))), (q20, .inl (cI, 8, .inl (fun _ => 0))), (q28, .inl (cI, 8, .inl (fun _ => 0))), (q36, .inl (cI, 32, .inl (fun _ => 0)))] := hD
  refine lv_aload_n hx hb dX2_init_41 rfl (lv_at hl 0 rfl) ?_
  refine lv_bipush (v := 8) hx hb dX2_init_42 (by decide) ?_
  refine va_newa (atype := .int) (ty := .int) (N' := 8) (a0 := (8, .inl (fun _ => 0))) hx hb (hts (.arrayClass .int) (by decide +kernel)) rfl hK hP hD hS hA (fun _ => rfl) (by decide) (by decide) (by show 8 * _ ≤ 536870912; exact Nat.le_of_ble_eq_true rfl) (Nat.le_of_ble_eq_true rfl) (Nat.le_of_ble_eq_true rfl) dX2_init_44 (fun q44 cA9 H hK9 hP hD hS => ?_)
  have ec9 : cA9 = cI := K_uni hK9 (k := 0) rfl (fun C h => by cases h)
  rw [ec9] at hP hD
  have hP : va_P D vwCl [(h0, .inr (2, [.int 0, .ref q12, .ref q20, .ref q28, .ref q36, .null, .int 0, .null, .null, .null, .null, .null, .null, .int 0, .null, .int 0, .null])), (q12, .inl (cI, 8, .inl (fun _ => 0))), (q20, .inl (cI, 8, .inl (fun _ => 0))), (q28, .inl (cI, 8, .inl (fun _ => 0))), (q36, .inl (cI, 32, .inl (fun _ => 0))), (q44, .inl (cI, 8, .inl (fun _ => 0)))] H := hP
  have hD : va_D A [(h0, .inr (2, [.int 0, .ref q12, .ref q20, .ref q28, .ref q36, .null, .int 0, .null, .null, .null, .null, .null, .null, .int 0, .null, .int 0, .null])), (q12, .inl (cI, 8, .inl (fun _ => 0))), (q20, .inl (cI, 8, .inl (fun _ => 0))), (q28, .inl (cI, 8, .inl (fun _ => 0))), (q36, .inl (cI, 32, .inl (fun _ => 0))), (q44, .inl (cI, 8, .inl (fun _ => 0)))] := hD
  refine W.widen (k := 5) (n := 64) (by omega) (by omega) ?_
  refine va_putF (D := D) (ci := 2) (v := .ref q44) (ty := (.array .int)) (C := RX2) (T := TX2) (N := 17) hx hb hts hinw tyX2 tyX2_ok nmX2 hown hK hP hD hS 0 rfl rfl 5 (by decide) (hts (.fieldLink RX2 28 "CornerLabels$Plans" "allowed" "[I") (by decide +kernel)) (fun _ h9 => h9) rfl hin rfl (by decide +kernel) rfl rfl (Nat.le_of_ble_eq_true rfl) dX2_init_46 (fun H locs hP hD hS => ?_)
  have hP : va_P D vwCl [(h0, .inr (2, [.int 0, .ref q12, .ref q20, .ref q28, .ref q36, .ref q44, .int 0, .null, .null, .null, .null, .null, .null, .int 0, .null, .int 0, .null])), (q12, .inl (cI, 8, .inl (fun _ => 0))), (q20, .inl (cI, 8, .inl (fun _ => 0))), (q28, .inl (cI, 8, .inl (fun _ => 0))), (q36, .inl (cI, 32, .inl (fun _ => 0))), (q44, .inl (cI, 8, .inl (fun _ => 0)))] H := hP
  have hD : va_D A [(h0, .inr (2, [.int 0, .ref q12, .ref q20, .ref q28, .ref q36, .ref q44, .int 0, .null, .null, .null, .null, .null, .null, .int 0, .null, .int 0, .null])), (q12, .inl (cI, 8, .inl (fun _ => 0))), (q20, .inl (cI, 8, .inl (fun _ => 0))), (q28, .inl (cI, 8, .inl (fun _ => 0))), (q36, .inl (cI, 32, .inl (fun _ => 0))), (q44, .inl (cI, 8, .inl (fun _ => 0)))] := hD
  refine lv_aload_n hx hb dX2_init_49 rfl (lv_at hl 0 rfl) ?_
  refine lv_iconst (v := 0) hx hb dX2_init_50 (by decide) ?_
  refine va_put (D := D) (ci := 2) (v := .int 0) (ty := .int) (C := RX2) (T := TX2) (N := 17) hx hb hts hinw tyX2 tyX2_ok nmX2 hown hK hP hD hS 0 rfl rfl 6 (by decide) (hts (.fieldLink RX2 31 "CornerLabels$Plans" "allowedSpots" "I") (by decide +kernel)) (fun _ h9 => h9) rfl (by decide +kernel) rfl rfl (Nat.le_of_ble_eq_true rfl) dX2_init_51 (fun H locs hP hD hS => ?_)
  have hP : va_P D vwCl [(h0, .inr (2, [.int 0, .ref q12, .ref q20, .ref q28, .ref q36, .ref q44, .int 0, .null, .null, .null, .null, .null, .null, .int 0, .null, .int 0, .null])), (q12, .inl (cI, 8, .inl (fun _ => 0))), (q20, .inl (cI, 8, .inl (fun _ => 0))), (q28, .inl (cI, 8, .inl (fun _ => 0))), (q36, .inl (cI, 32, .inl (fun _ => 0))), (q44, .inl (cI, 8, .inl (fun _ => 0)))] H := hP
  have hD : va_D A [(h0, .inr (2, [.int 0, .ref q12, .ref q20, .ref q28, .ref q36, .ref q44, .int 0, .null, .null, .null, .null, .null, .null, .int 0, .null, .int 0, .null])), (q12, .inl (cI, 8, .inl (fun _ => 0))), (q20, .inl (cI, 8, .inl (fun _ => 0))), (q28, .inl (cI, 8, .inl (fun _ => 0))), (q36, .inl (cI, 32, .inl (fun _ => 0))), (q44, .inl (cI, 8, .inl (fun _ => 0)))] := hD
  refine lv_aload_n hx hb dX2_init_54 rfl (lv_at hl 0 rfl) ?_
  refine lv_bipush (v := 8) hx hb dX2_init_55 (by decide) ?_
  refine va_newa (atype := .boolean) (ty := .boolean) (N' := 8) (a0 := (8, .inl (fun _ => 0))) hx hb (hts (.arrayClass .boolean) (by decide +kernel)) rfl hK hP hD hS hA (fun _ => rfl) (by decide) (by decide) (by show 8 * _ ≤ 536870912; exact Nat.le_of_ble_eq_true rfl) (Nat.le_of_ble_eq_true rfl) (Nat.le_of_ble_eq_true rfl) dX2_init_57 (fun q57 cA9 H hK9 hP hD hS => ?_)
  have ec9 : cA9 = cZ := K_uni hK9 (k := 1) rfl (fun C h => by cases h)
  rw [ec9] at hP hD
  have hP : va_P D vwCl [(h0, .inr (2, [.int 0, .ref q12, .ref q20, .ref q28, .ref q36, .ref q44, .int 0, .null, .null, .null, .null, .null, .null, .int 0, .null, .int 0, .null])), (q12, .inl (cI, 8, .inl (fun _ => 0))), (q20, .inl (cI, 8, .inl (fun _ => 0))), (q28, .inl (cI, 8, .inl (fun _ => 0))), (q36, .inl (cI, 32, .inl (fun _ => 0))), (q44, .inl (cI, 8, .inl (fun _ => 0))), (q57, .inl (cZ, 8, .inl (fun _ => 0)))] H := hP
  have hD : va_D A [(h0, .inr (2, [.int 0, .ref q12, .ref q20, .ref q28, .ref q36, .ref q44, .int 0, .null, .null, .null, .null, .null, .null, .int 0, .null, .int 0, .null])), (q12, .inl (cI, 8, .inl (fun _ => 0))), (q20, .inl (cI, 8, .inl (fun _ => 0))), (q28, .inl (cI, 8, .inl (fun _ => 0))), (q36, .inl (cI, 32, .inl (fun _ => 0))), (q44, .inl (cI, 8, .inl (fun _ => 0))), (q57, .inl (cZ, 8, .inl (fun _ => 0)))] := hD
  refine W.widen (k := 6) (n := 72) (by omega) (by omega) ?_
  refine va_putF (D := D) (ci := 2) (v := .ref q57) (ty := (.array .boolean)) (C := RX2) (T := TX2) (N := 17) hx hb hts hinw tyX2 tyX2_ok nmX2 hown hK hP hD hS 0 rfl rfl 7 (by decide) (hts (.fieldLink RX2 34 "CornerLabels$Plans" "mayDrop" "[Z") (by decide +kernel)) (fun _ h9 => h9) rfl hin rfl (by decide +kernel) rfl rfl (Nat.le_of_ble_eq_true rfl) dX2_init_59 (fun H locs hP hD hS => ?_)
  have hP : va_P D vwCl [(h0, .inr (2, [.int 0, .ref q12, .ref q20, .ref q28, .ref q36, .ref q44, .int 0, .ref q57, .null, .null, .null, .null, .null, .int 0, .null, .int 0, .null])), (q12, .inl (cI, 8, .inl (fun _ => 0))), (q20, .inl (cI, 8, .inl (fun _ => 0))), (q28, .inl (cI, 8, .inl (fun _ => 0))), (q36, .inl (cI, 32, .inl (fun _ => 0))), (q44, .inl (cI, 8, .inl (fun _ => 0))), (q57, .inl (cZ, 8, .inl (fun _ => 0)))] H := hP
  have hD : va_D A [(h0, .inr (2, [.int 0, .ref q12, .ref q20, .ref q28, .ref q36, .ref q44, .int 0, .ref q57, .null, .null, .null, .null, .null, .int 0, .null, .int 0, .null])), (q12, .inl (cI, 8, .inl (fun _ => 0))), (q20, .inl (cI, 8, .inl (fun _ => 0))), (q28, .inl (cI, 8, .inl (fun _ => 0))), (q36, .inl (cI, 32, .inl (fun _ => 0))), (q44, .inl (cI, 8, .inl (fun _ => 0))), (q57, .inl (cZ, 8, .inl (fun _ => 0)))] := hD
  refine lv_aload_n hx hb dX2_init_62 rfl (lv_at hl 0 rfl) ?_
  refine lv_bipush (v := 32) hx hb dX2_init_63 (by decide) ?_
  refine va_newa (atype := .int) (ty := .int) (N' := 32) (a0 := (32, .inl (fun _ => 0))) hx hb (hts (.arrayClass .int) (by decide +kernel)) rfl hK hP hD hS hA (fun _ => rfl) (by decide) (by decide) (by show 32 * _ ≤ 536870912; exact Nat.le_of_ble_eq_true rfl) (Nat.le_of_ble_eq_true rfl) (Nat.le_of_ble_eq_true rfl) dX2_init_65 (fun q65 cA9 H hK9 hP hD hS => ?_)
  have ec9 : cA9 = cI := K_uni hK9 (k := 0) rfl (fun C h => by cases h)
  rw [ec9] at hP hD
  have hP : va_P D vwCl [(h0, .inr (2, [.int 0, .ref q12, .ref q20, .ref q28, .ref q36, .ref q44, .int 0, .ref q57, .null, .null, .null, .null, .null, .int 0, .null, .int 0, .null])), (q12, .inl (cI, 8, .inl (fun _ => 0))), (q20, .inl (cI, 8, .inl (fun _ => 0))), (q28, .inl (cI, 8, .inl (fun _ => 0))), (q36, .inl (cI, 32, .inl (fun _ => 0))), (q44, .inl (cI, 8, .inl (fun _ => 0))), (q57, .inl (cZ, 8, .inl (fun _ => 0))), (q65, .inl (cI, 32, .inl (fun _ => 0)))] H := hP
  have hD : va_D A [(h0, .inr (2, [.int 0, .ref q12, .ref q20, .ref q28, .ref q36, .ref q44, .int 0, .ref q57, .null, .null, .null, .null, .null, .int 0, .null, .int 0, .null])), (q12, .inl (cI, 8, .inl (fun _ => 0))), (q20, .inl (cI, 8, .inl (fun _ => 0))), (q28, .inl (cI, 8, .inl (fun _ => 0))), (q36, .inl (cI, 32, .inl (fun _ => 0))), (q44, .inl (cI, 8, .inl (fun _ => 0))), (q57, .inl (cZ, 8, .inl (fun _ => 0))), (q65, .inl (cI, 32, .inl (fun _ => 0)))] := hD
  refine W.widen (k := 7) (n := 104) (by omega) (by omega) ?_
  refine va_putF (D := D) (ci := 2) (v := .ref q65) (ty := (.array .int)) (C := RX2) (T := TX2) (N := 17) hx hb hts hinw tyX2 tyX2_ok nmX2 hown hK hP hD hS 0 rfl rfl 8 (by decide) (hts (.fieldLink RX2 38 "CornerLabels$Plans" "gain" "[I") (by decide +kernel)) (fun _ h9 => h9) rfl hin rfl (by decide +kernel) rfl rfl (Nat.le_of_ble_eq_true rfl) dX2_init_67 (fun H locs hP hD hS => ?_)
  have hP : va_P D vwCl [(h0, .inr (2, [.int 0, .ref q12, .ref q20, .ref q28, .ref q36, .ref q44, .int 0, .ref q57, .ref q65, .null, .null, .null, .null, .int 0, .null, .int 0, .null])), (q12, .inl (cI, 8, .inl (fun _ => 0))), (q20, .inl (cI, 8, .inl (fun _ => 0))), (q28, .inl (cI, 8, .inl (fun _ => 0))), (q36, .inl (cI, 32, .inl (fun _ => 0))), (q44, .inl (cI, 8, .inl (fun _ => 0))), (q57, .inl (cZ, 8, .inl (fun _ => 0))), (q65, .inl (cI, 32, .inl (fun _ => 0)))] H := hP
  have hD : va_D A [(h0, .inr (2, [.int 0, .ref q12, .ref q20, .ref q28, .ref q36, .ref q44, .int 0, .ref q57, .ref q65, .null, .null, .null, .null, .int 0, .null, .int 0, .null])), (q12, .inl (cI, 8, .inl (fun _ => 0))), (q20, .inl (cI, 8, .inl (fun _ => 0))), (q28, .inl (cI, 8, .inl (fun _ => 0))), (q36, .inl (cI, 32, .inl (fun _ => 0))), (q44, .inl (cI, 8, .inl (fun _ => 0))), (q57, .inl (cZ, 8, .inl (fun _ => 0))), (q65, .inl (cI, 32, .inl (fun _ => 0)))] := hD
  refine lv_aload_n hx hb dX2_init_70 rfl (lv_at hl 0 rfl) ?_
  refine lv_bipush (v := 8) hx hb dX2_init_71 (by decide) ?_
  refine va_newa (atype := .int) (ty := .int) (N' := 8) (a0 := (8, .inl (fun _ => 0))) hx hb (hts (.arrayClass .int) (by decide +kernel)) rfl hK hP hD hS hA (fun _ => rfl) (by decide) (by decide) (by show 8 * _ ≤ 536870912; exact Nat.le_of_ble_eq_true rfl) (Nat.le_of_ble_eq_true rfl) (Nat.le_of_ble_eq_true rfl) dX2_init_73 (fun q73 cA9 H hK9 hP hD hS => ?_)
  have ec9 : cA9 = cI := K_uni hK9 (k := 0) rfl (fun C h => by cases h)
  rw [ec9] at hP hD
  have hP : va_P D vwCl [(h0, .inr (2, [.int 0, .ref q12, .ref q20, .ref q28, .ref q36, .ref q44, .int 0, .ref q57, .ref q65, .null, .null, .null, .null, .int 0, .null, .int 0, .null])), (q12, .inl (cI, 8, .inl (fun _ => 0))), (q20, .inl (cI, 8, .inl (fun _ => 0))), (q28, .inl (cI, 8, .inl (fun _ => 0))), (q36, .inl (cI, 32, .inl (fun _ => 0))), (q44, .inl (cI, 8, .inl (fun _ => 0))), (q57, .inl (cZ, 8, .inl (fun _ => 0))), (q65, .inl (cI, 32, .inl (fun _ => 0))), (q73, .inl (cI, 8, .inl (fun _ => 0)))] H := hP
  have hD : va_D A [(h0, .inr (2, [.int 0, .ref q12, .ref q20, .ref q28, .ref q36, .ref q44, .int 0, .ref q57, .ref q65, .null, .null, .null, .null, .int 0, .null, .int 0, .null])), (q12, .inl (cI, 8, .inl (fun _ => 0))), (q20, .inl (cI, 8, .inl (fun _ => 0))), (q28, .inl (cI, 8, .inl (fun _ => 0))), (q36, .inl (cI, 32, .inl (fun _ => 0))), (q44, .inl (cI, 8, .inl (fun _ => 0))), (q57, .inl (cZ, 8, .inl (fun _ => 0))), (q65, .inl (cI, 32, .inl (fun _ => 0))), (q73, .inl (cI, 8, .inl (fun _ => 0)))] := hD
  refine W.widen (k := 8) (n := 112) (by omega) (by omega) ?_
  refine va_putF (D := D) (ci := 2) (v := .ref q73) (ty := (.array .int)) (C := RX2) (T := TX2) (N := 17) hx hb hts hinw tyX2 tyX2_ok nmX2 hown hK hP hD hS 0 rfl rfl 9 (by decide) (hts (.fieldLink RX2 41 "CornerLabels$Plans" "mostGain" "[I") (by decide +kernel)) (fun _ h9 => h9) rfl hin rfl (by decide +kernel) rfl rfl (Nat.le_of_ble_eq_true rfl) dX2_init_75 (fun H locs hP hD hS => ?_)
  have hP : va_P D vwCl [(h0, .inr (2, [.int 0, .ref q12, .ref q20, .ref q28, .ref q36, .ref q44, .int 0, .ref q57, .ref q65, .ref q73, .null, .null, .null, .int 0, .null, .int 0, .null])), (q12, .inl (cI, 8, .inl (fun _ => 0))), (q20, .inl (cI, 8, .inl (fun _ => 0))), (q28, .inl (cI, 8, .inl (fun _ => 0))), (q36, .inl (cI, 32, .inl (fun _ => 0))), (q44, .inl (cI, 8, .inl (fun _ => 0))), (q57, .inl (cZ, 8, .inl (fun _ => 0))), (q65, .inl (cI, 32, .inl (fun _ => 0))), (q73, .inl (cI, 8, .inl (fun _ => 0)))] H := hP
  have hD : va_D A [(h0, .inr (2, [.int 0, .ref q12, .ref q20, .ref q28, .ref q36, .ref q44, .int 0, .ref q57, .ref q65, .ref q73, .null, .null, .null, .int 0, .null, .int 0, .null])), (q12, .inl (cI, 8, .inl (fun _ => 0))), (q20, .inl (cI, 8, .inl (fun _ => 0))), (q28, .inl (cI, 8, .inl (fun _ => 0))), (q36, .inl (cI, 32, .inl (fun _ => 0))), (q44, .inl (cI, 8, .inl (fun _ => 0))), (q57, .inl (cZ, 8, .inl (fun _ => 0))), (q65, .inl (cI, 32, .inl (fun _ => 0))), (q73, .inl (cI, 8, .inl (fun _ => 0)))] := hD
  refine lv_aload_n hx hb dX2_init_78 rfl (lv_at hl 0 rfl) ?_
  refine lv_bipush (v := 9) hx hb dX2_init_79 (by decide) ?_
  refine va_newa (atype := .int) (ty := .int) (N' := 9) (a0 := (9, .inl (fun _ => 0))) hx hb (hts (.arrayClass .int) (by decide +kernel)) rfl hK hP hD hS hA (fun _ => rfl) (by decide) (by decide) (by show 9 * _ ≤ 536870912; exact Nat.le_of_ble_eq_true rfl) (Nat.le_of_ble_eq_true rfl) (Nat.le_of_ble_eq_true rfl) dX2_init_81 (fun q81 cA9 H hK9 hP hD hS => ?_)
  have ec9 : cA9 = cI := K_uni hK9 (k := 0) rfl (fun C h => by cases h)
  rw [ec9] at hP hD
  have hP : va_P D vwCl [(h0, .inr (2, [.int 0, .ref q12, .ref q20, .ref q28, .ref q36, .ref q44, .int 0, .ref q57, .ref q65, .ref q73, .null, .null, .null, .int 0, .null, .int 0, .null])), (q12, .inl (cI, 8, .inl (fun _ => 0))), (q20, .inl (cI, 8, .inl (fun _ => 0))), (q28, .inl (cI, 8, .inl (fun _ => 0))), (q36, .inl (cI, 32, .inl (fun _ => 0))), (q44, .inl (cI, 8, .inl (fun _ => 0))), (q57, .inl (cZ, 8, .inl (fun _ => 0))), (q65, .inl (cI, 32, .inl (fun _ => 0))), (q73, .inl (cI, 8, .inl (fun _ => 0))), (q81, .inl (cI, 9, .inl (fun _ => 0)))] H := hP
  have hD : va_D A [(h0, .inr (2, [.int 0, .ref q12, .ref q20, .ref q28, .ref q36, .ref q44, .int 0, .ref q57, .ref q65, .ref q73, .null, .null, .null, .int 0, .null, .int 0, .null])), (q12, .inl (cI, 8, .inl (fun _ => 0))), (q20, .inl (cI, 8, .inl (fun _ => 0))), (q28, .inl (cI, 8, .inl (fun _ => 0))), (q36, .inl (cI, 32, .inl (fun _ => 0))), (q44, .inl (cI, 8, .inl (fun _ => 0))), (q57, .inl (cZ, 8, .inl (fun _ => 0))), (q65, .inl (cI, 32, .inl (fun _ => 0))), (q73, .inl (cI, 8, .inl (fun _ => 0))), (q81, .inl (cI, 9, .inl (fun _ => 0)))] := hD
  refine W.widen (k := 9) (n := 121) (by omega) (by omega) ?_
  refine va_putF (D := D) (ci := 2) (v := .ref q81) (ty := (.array .int)) (C := RX2) (T := TX2) (N := 17) hx hb hts hinw tyX2 tyX2_ok nmX2 hown hK hP hD hS 0 rfl rfl 10 (by decide) (hts (.fieldLink RX2 44 "CornerLabels$Plans" "hope" "[I") (by decide +kernel)) (fun _ h9 => h9) rfl hin rfl (by decide +kernel) rfl rfl (Nat.le_of_ble_eq_true rfl) dX2_init_83 (fun H locs hP hD hS => ?_)
  have hP : va_P D vwCl [(h0, .inr (2, [.int 0, .ref q12, .ref q20, .ref q28, .ref q36, .ref q44, .int 0, .ref q57, .ref q65, .ref q73, .ref q81, .null, .null, .int 0, .null, .int 0, .null])), (q12, .inl (cI, 8, .inl (fun _ => 0))), (q20, .inl (cI, 8, .inl (fun _ => 0))), (q28, .inl (cI, 8, .inl (fun _ => 0))), (q36, .inl (cI, 32, .inl (fun _ => 0))), (q44, .inl (cI, 8, .inl (fun _ => 0))), (q57, .inl (cZ, 8, .inl (fun _ => 0))), (q65, .inl (cI, 32, .inl (fun _ => 0))), (q73, .inl (cI, 8, .inl (fun _ => 0))), (q81, .inl (cI, 9, .inl (fun _ => 0)))] H := hP
  have hD : va_D A [(h0, .inr (2, [.int 0, .ref q12, .ref q20, .ref q28, .ref q36, .ref q44, .int 0, .ref q57, .ref q65, .ref q73, .ref q81, .null, .null, .int 0, .null, .int 0, .null])), (q12, .inl (cI, 8, .inl (fun _ => 0))), (q20, .inl (cI, 8, .inl (fun _ => 0))), (q28, .inl (cI, 8, .inl (fun _ => 0))), (q36, .inl (cI, 32, .inl (fun _ => 0))), (q44, .inl (cI, 8, .inl (fun _ => 0))), (q57, .inl (cZ, 8, .inl (fun _ => 0))), (q65, .inl (cI, 32, .inl (fun _ => 0))), (q73, .inl (cI, 8, .inl (fun _ => 0))), (q81, .inl (cI, 9, .inl (fun _ => 0)))] := hD
  refine lv_aload_n hx hb dX2_init_86 rfl (lv_at hl 0 rfl) ?_
  refine lv_bipush (v := 8) hx hb dX2_init_87 (by decide) ?_
  refine va_newa (atype := .int) (ty := .int) (N' := 8) (a0 := (8, .inl (fun _ => 0))) hx hb (hts (.arrayClass .int) (by decide +kernel)) rfl hK hP hD hS hA (fun _ => rfl) (by decide) (by decide) (by show 8 * _ ≤ 536870912; exact Nat.le_of_ble_eq_true rfl) (Nat.le_of_ble_eq_true rfl) (Nat.le_of_ble_eq_true rfl) dX2_init_89 (fun q89 cA9 H hK9 hP hD hS => ?_)
  have ec9 : cA9 = cI := K_uni hK9 (k := 0) rfl (fun C h => by cases h)
  rw [ec9] at hP hD
  have hP : va_P D vwCl [(h0, .inr (2, [.int 0, .ref q12, .ref q20, .ref q28, .ref q36, .ref q44, .int 0, .ref q57, .ref q65, .ref q73, .ref q81, .null, .null, .int 0, .null, .int 0, .null])), (q12, .inl (cI, 8, .inl (fun _ => 0))), (q20, .inl (cI, 8, .inl (fun _ => 0))), (q28, .inl (cI, 8, .inl (fun _ => 0))), (q36, .inl (cI, 32, .inl (fun _ => 0))), (q44, .inl (cI, 8, .inl (fun _ => 0))), (q57, .inl (cZ, 8, .inl (fun _ => 0))), (q65, .inl (cI, 32, .inl (fun _ => 0))), (q73, .inl (cI, 8, .inl (fun _ => 0))), (q81, .inl (cI, 9, .inl (fun _ => 0))), (q89, .inl (cI, 8, .inl (fun _ => 0)))] H := hP
  have hD : va_D A [(h0, .inr (2, [.int 0, .ref q12, .ref q20, .ref q28, .ref q36, .ref q44, .int 0, .ref q57, .ref q65, .ref q73, .ref q81, .null, .null, .int 0, .null, .int 0, .null])), (q12, .inl (cI, 8, .inl (fun _ => 0))), (q20, .inl (cI, 8, .inl (fun _ => 0))), (q28, .inl (cI, 8, .inl (fun _ => 0))), (q36, .inl (cI, 32, .inl (fun _ => 0))), (q44, .inl (cI, 8, .inl (fun _ => 0))), (q57, .inl (cZ, 8, .inl (fun _ => 0))), (q65, .inl (cI, 32, .inl (fun _ => 0))), (q73, .inl (cI, 8, .inl (fun _ => 0))), (q81, .inl (cI, 9, .inl (fun _ => 0))), (q89, .inl (cI, 8, .inl (fun _ => 0)))] := hD
  refine W.widen (k := 10) (n := 129) (by omega) (by omega) ?_
  refine va_putF (D := D) (ci := 2) (v := .ref q89) (ty := (.array .int)) (C := RX2) (T := TX2) (N := 17) hx hb hts hinw tyX2 tyX2_ok nmX2 hown hK hP hD hS 0 rfl rfl 11 (by decide) (hts (.fieldLink RX2 47 "CornerLabels$Plans" "trial" "[I") (by decide +kernel)) (fun _ h9 => h9) rfl hin rfl (by decide +kernel) rfl rfl (Nat.le_of_ble_eq_true rfl) dX2_init_91 (fun H locs hP hD hS => ?_)
  have hP : va_P D vwCl [(h0, .inr (2, [.int 0, .ref q12, .ref q20, .ref q28, .ref q36, .ref q44, .int 0, .ref q57, .ref q65, .ref q73, .ref q81, .ref q89, .null, .int 0, .null, .int 0, .null])), (q12, .inl (cI, 8, .inl (fun _ => 0))), (q20, .inl (cI, 8, .inl (fun _ => 0))), (q28, .inl (cI, 8, .inl (fun _ => 0))), (q36, .inl (cI, 32, .inl (fun _ => 0))), (q44, .inl (cI, 8, .inl (fun _ => 0))), (q57, .inl (cZ, 8, .inl (fun _ => 0))), (q65, .inl (cI, 32, .inl (fun _ => 0))), (q73, .inl (cI, 8, .inl (fun _ => 0))), (q81, .inl (cI, 9, .inl (fun _ => 0))), (q89, .inl (cI, 8, .inl (fun _ => 0)))] H := hP
  have hD : va_D A [(h0, .inr (2, [.int 0, .ref q12, .ref q20, .ref q28, .ref q36, .ref q44, .int 0, .ref q57, .ref q65, .ref q73, .ref q81, .ref q89, .null, .int 0, .null, .int 0, .null])), (q12, .inl (cI, 8, .inl (fun _ => 0))), (q20, .inl (cI, 8, .inl (fun _ => 0))), (q28, .inl (cI, 8, .inl (fun _ => 0))), (q36, .inl (cI, 32, .inl (fun _ => 0))), (q44, .inl (cI, 8, .inl (fun _ => 0))), (q57, .inl (cZ, 8, .inl (fun _ => 0))), (q65, .inl (cI, 32, .inl (fun _ => 0))), (q73, .inl (cI, 8, .inl (fun _ => 0))), (q81, .inl (cI, 9, .inl (fun _ => 0))), (q89, .inl (cI, 8, .inl (fun _ => 0)))] := hD
  refine lv_aload_n hx hb dX2_init_94 rfl (lv_at hl 0 rfl) ?_
  refine lv_bipush (v := 8) hx hb dX2_init_95 (by decide) ?_
  refine va_newa (atype := .int) (ty := .int) (N' := 8) (a0 := (8, .inl (fun _ => 0))) hx hb (hts (.arrayClass .int) (by decide +kernel)) rfl hK hP hD hS hA (fun _ => rfl) (by decide) (by decide) (by show 8 * _ ≤ 536870912; exact Nat.le_of_ble_eq_true rfl) (Nat.le_of_ble_eq_true rfl) (Nat.le_of_ble_eq_true rfl) dX2_init_97 (fun q97 cA9 H hK9 hP hD hS => ?_)
  have ec9 : cA9 = cI := K_uni hK9 (k := 0) rfl (fun C h => by cases h)
  rw [ec9] at hP hD
  have hP : va_P D vwCl [(h0, .inr (2, [.int 0, .ref q12, .ref q20, .ref q28, .ref q36, .ref q44, .int 0, .ref q57, .ref q65, .ref q73, .ref q81, .ref q89, .null, .int 0, .null, .int 0, .null])), (q12, .inl (cI, 8, .inl (fun _ => 0))), (q20, .inl (cI, 8, .inl (fun _ => 0))), (q28, .inl (cI, 8, .inl (fun _ => 0))), (q36, .inl (cI, 32, .inl (fun _ => 0))), (q44, .inl (cI, 8, .inl (fun _ => 0))), (q57, .inl (cZ, 8, .inl (fun _ => 0))), (q65, .inl (cI, 32, .inl (fun _ => 0))), (q73, .inl (cI, 8, .inl (fun _ => 0))), (q81, .inl (cI, 9, .inl (fun _ => 0))), (q89, .inl (cI, 8, .inl (fun _ => 0))), (q97, .inl (cI, 8, .inl (fun _ => 0)))] H := hP
  have hD : va_D A [(h0, .inr (2, [.int 0, .ref q12, .ref q20, .ref q28, .ref q36, .ref q44, .int 0, .ref q57, .ref q65, .ref q73, .ref q81, .ref q89, .null, .int 0, .null, .int 0, .null])), (q12, .inl (cI, 8, .inl (fun _ => 0))), (q20, .inl (cI, 8, .inl (fun _ => 0))), (q28, .inl (cI, 8, .inl (fun _ => 0))), (q36, .inl (cI, 32, .inl (fun _ => 0))), (q44, .inl (cI, 8, .inl (fun _ => 0))), (q57, .inl (cZ, 8, .inl (fun _ => 0))), (q65, .inl (cI, 32, .inl (fun _ => 0))), (q73, .inl (cI, 8, .inl (fun _ => 0))), (q81, .inl (cI, 9, .inl (fun _ => 0))), (q89, .inl (cI, 8, .inl (fun _ => 0))), (q97, .inl (cI, 8, .inl (fun _ => 0)))] := hD
  refine W.widen (k := 11) (n := 137) (by omega) (by omega) ?_
  refine va_putF (D := D) (ci := 2) (v := .ref q97) (ty := (.array .int)) (C := RX2) (T := TX2) (N := 17) hx hb hts hinw tyX2 tyX2_ok nmX2 hown hK hP hD hS 0 rfl rfl 12 (by decide) (hts (.fieldLink RX2 50 "CornerLabels$Plans" "found" "[I") (by decide +kernel)) (fun _ h9 => h9) rfl hin rfl (by decide +kernel) rfl rfl (Nat.le_of_ble_eq_true rfl) dX2_init_99 (fun H locs hP hD hS => ?_)
  have hP : va_P D vwCl [(h0, .inr (2, [.int 0, .ref q12, .ref q20, .ref q28, .ref q36, .ref q44, .int 0, .ref q57, .ref q65, .ref q73, .ref q81, .ref q89, .ref q97, .int 0, .null, .int 0, .null])), (q12, .inl (cI, 8, .inl (fun _ => 0))), (q20, .inl (cI, 8, .inl (fun _ => 0))), (q28, .inl (cI, 8, .inl (fun _ => 0))), (q36, .inl (cI, 32, .inl (fun _ => 0))), (q44, .inl (cI, 8, .inl (fun _ => 0))), (q57, .inl (cZ, 8, .inl (fun _ => 0))), (q65, .inl (cI, 32, .inl (fun _ => 0))), (q73, .inl (cI, 8, .inl (fun _ => 0))), (q81, .inl (cI, 9, .inl (fun _ => 0))), (q89, .inl (cI, 8, .inl (fun _ => 0))), (q97, .inl (cI, 8, .inl (fun _ => 0)))] H := hP
  have hD : va_D A [(h0, .inr (2, [.int 0, .ref q12, .ref q20, .ref q28, .ref q36, .ref q44, .int 0, .ref q57, .ref q65, .ref q73, .ref q81, .ref q89, .ref q97, .int 0, .null, .int 0, .null])), (q12, .inl (cI, 8, .inl (fun _ => 0))), (q20, .inl (cI, 8, .inl (fun _ => 0))), (q28, .inl (cI, 8, .inl (fun _ => 0))), (q36, .inl (cI, 32, .inl (fun _ => 0))), (q44, .inl (cI, 8, .inl (fun _ => 0))), (q57, .inl (cZ, 8, .inl (fun _ => 0))), (q65, .inl (cI, 32, .inl (fun _ => 0))), (q73, .inl (cI, 8, .inl (fun _ => 0))), (q81, .inl (cI, 9, .inl (fun _ => 0))), (q89, .inl (cI, 8, .inl (fun _ => 0))), (q97, .inl (cI, 8, .inl (fun _ => 0)))] := hD
  refine lv_aload_n hx hb dX2_init_102 rfl (lv_at hl 0 rfl) ?_
  refine lv_iconst (v := -1) hx hb dX2_init_103 (by decide) ?_
  refine va_put (D := D) (ci := 2) (v := .int (-1)) (ty := .int) (C := RX2) (T := TX2) (N := 17) hx hb hts hinw tyX2 tyX2_ok nmX2 hown hK hP hD hS 0 rfl rfl 13 (by decide) (hts (.fieldLink RX2 53 "CornerLabels$Plans" "foundScore" "I") (by decide +kernel)) (fun _ h9 => h9) rfl (by decide +kernel) rfl rfl (Nat.le_of_ble_eq_true rfl) dX2_init_104 (fun H locs hP hD hS => ?_)
  have hP : va_P D vwCl [(h0, .inr (2, [.int 0, .ref q12, .ref q20, .ref q28, .ref q36, .ref q44, .int 0, .ref q57, .ref q65, .ref q73, .ref q81, .ref q89, .ref q97, .int (-1), .null, .int 0, .null])), (q12, .inl (cI, 8, .inl (fun _ => 0))), (q20, .inl (cI, 8, .inl (fun _ => 0))), (q28, .inl (cI, 8, .inl (fun _ => 0))), (q36, .inl (cI, 32, .inl (fun _ => 0))), (q44, .inl (cI, 8, .inl (fun _ => 0))), (q57, .inl (cZ, 8, .inl (fun _ => 0))), (q65, .inl (cI, 32, .inl (fun _ => 0))), (q73, .inl (cI, 8, .inl (fun _ => 0))), (q81, .inl (cI, 9, .inl (fun _ => 0))), (q89, .inl (cI, 8, .inl (fun _ => 0))), (q97, .inl (cI, 8, .inl (fun _ => 0)))] H := hP
  have hD : va_D A [(h0, .inr (2, [.int 0, .ref q12, .ref q20, .ref q28, .ref q36, .ref q44, .int 0, .ref q57, .ref q65, .ref q73, .ref q81, .ref q89, .ref q97, .int (-1), .null, .int 0, .null])), (q12, .inl (cI, 8, .inl (fun _ => 0))), (q20, .inl (cI, 8, .inl (fun _ => 0))), (q28, .inl (cI, 8, .inl (fun _ => 0))), (q36, .inl (cI, 32, .inl (fun _ => 0))), (q44, .inl (cI, 8, .inl (fun _ => 0))), (q57, .inl (cZ, 8, .inl (fun _ => 0))), (q65, .inl (cI, 32, .inl (fun _ => 0))), (q73, .inl (cI, 8, .inl (fun _ => 0))), (q81, .inl (cI, 9, .inl (fun _ => 0))), (q89, .inl (cI, 8, .inl (fun _ => 0))), (q97, .inl (cI, 8, .inl (fun _ => 0)))] := hD
  refine lv_aload_n hx hb dX2_init_107 rfl (lv_at hl 0 rfl) ?_
  refine lv_bipush (v := 8) hx hb dX2_init_108 (by decide) ?_
  refine va_newa (atype := .int) (ty := .int) (N' := 8) (a0 := (8, .inl (fun _ => 0))) hx hb (hts (.arrayClass .int) (by decide +kernel)) rfl hK hP hD hS hA (fun _ => rfl) (by decide) (by decide) (by show 8 * _ ≤ 536870912; exact Nat.le_of_ble_eq_true rfl) (Nat.le_of_ble_eq_true rfl) (Nat.le_of_ble_eq_true rfl) dX2_init_110 (fun q110 cA9 H hK9 hP hD hS => ?_)
  have ec9 : cA9 = cI := K_uni hK9 (k := 0) rfl (fun C h => by cases h)
  rw [ec9] at hP hD
  have hP : va_P D vwCl [(h0, .inr (2, [.int 0, .ref q12, .ref q20, .ref q28, .ref q36, .ref q44, .int 0, .ref q57, .ref q65, .ref q73, .ref q81, .ref q89, .ref q97, .int (-1), .null, .int 0, .null])), (q12, .inl (cI, 8, .inl (fun _ => 0))), (q20, .inl (cI, 8, .inl (fun _ => 0))), (q28, .inl (cI, 8, .inl (fun _ => 0))), (q36, .inl (cI, 32, .inl (fun _ => 0))), (q44, .inl (cI, 8, .inl (fun _ => 0))), (q57, .inl (cZ, 8, .inl (fun _ => 0))), (q65, .inl (cI, 32, .inl (fun _ => 0))), (q73, .inl (cI, 8, .inl (fun _ => 0))), (q81, .inl (cI, 9, .inl (fun _ => 0))), (q89, .inl (cI, 8, .inl (fun _ => 0))), (q97, .inl (cI, 8, .inl (fun _ => 0))), (q110, .inl (cI, 8, .inl (fun _ => 0)))] H := hP
  have hD : va_D A [(h0, .inr (2, [.int 0, .ref q12, .ref q20, .ref q28, .ref q36, .ref q44, .int 0, .ref q57, .ref q65, .ref q73, .ref q81, .ref q89, .ref q97, .int (-1), .null, .int 0, .null])), (q12, .inl (cI, 8, .inl (fun _ => 0))), (q20, .inl (cI, 8, .inl (fun _ => 0))), (q28, .inl (cI, 8, .inl (fun _ => 0))), (q36, .inl (cI, 32, .inl (fun _ => 0))), (q44, .inl (cI, 8, .inl (fun _ => 0))), (q57, .inl (cZ, 8, .inl (fun _ => 0))), (q65, .inl (cI, 32, .inl (fun _ => 0))), (q73, .inl (cI, 8, .inl (fun _ => 0))), (q81, .inl (cI, 9, .inl (fun _ => 0))), (q89, .inl (cI, 8, .inl (fun _ => 0))), (q97, .inl (cI, 8, .inl (fun _ => 0))), (q110, .inl (cI, 8, .inl (fun _ => 0)))] := hD
  refine W.widen (k := 12) (n := 145) (by omega) (by omega) ?_
  refine va_putF (D := D) (ci := 2) (v := .ref q110) (ty := (.array .int)) (C := RX2) (T := TX2) (N := 17) hx hb hts hinw tyX2 tyX2_ok nmX2 hown hK hP hD hS 0 rfl rfl 14 (by decide) (hts (.fieldLink RX2 56 "CornerLabels$Plans" "bestCorners" "[I") (by decide +kernel)) (fun _ h9 => h9) rfl hin rfl (by decide +kernel) rfl rfl (Nat.le_of_ble_eq_true rfl) dX2_init_112 (fun H locs hP hD hS => ?_)
  have hP : va_P D vwCl [(h0, .inr (2, [.int 0, .ref q12, .ref q20, .ref q28, .ref q36, .ref q44, .int 0, .ref q57, .ref q65, .ref q73, .ref q81, .ref q89, .ref q97, .int (-1), .ref q110, .int 0, .null])), (q12, .inl (cI, 8, .inl (fun _ => 0))), (q20, .inl (cI, 8, .inl (fun _ => 0))), (q28, .inl (cI, 8, .inl (fun _ => 0))), (q36, .inl (cI, 32, .inl (fun _ => 0))), (q44, .inl (cI, 8, .inl (fun _ => 0))), (q57, .inl (cZ, 8, .inl (fun _ => 0))), (q65, .inl (cI, 32, .inl (fun _ => 0))), (q73, .inl (cI, 8, .inl (fun _ => 0))), (q81, .inl (cI, 9, .inl (fun _ => 0))), (q89, .inl (cI, 8, .inl (fun _ => 0))), (q97, .inl (cI, 8, .inl (fun _ => 0))), (q110, .inl (cI, 8, .inl (fun _ => 0)))] H := hP
  have hD : va_D A [(h0, .inr (2, [.int 0, .ref q12, .ref q20, .ref q28, .ref q36, .ref q44, .int 0, .ref q57, .ref q65, .ref q73, .ref q81, .ref q89, .ref q97, .int (-1), .ref q110, .int 0, .null])), (q12, .inl (cI, 8, .inl (fun _ => 0))), (q20, .inl (cI, 8, .inl (fun _ => 0))), (q28, .inl (cI, 8, .inl (fun _ => 0))), (q36, .inl (cI, 32, .inl (fun _ => 0))), (q44, .inl (cI, 8, .inl (fun _ => 0))), (q57, .inl (cZ, 8, .inl (fun _ => 0))), (q65, .inl (cI, 32, .inl (fun _ => 0))), (q73, .inl (cI, 8, .inl (fun _ => 0))), (q81, .inl (cI, 9, .inl (fun _ => 0))), (q89, .inl (cI, 8, .inl (fun _ => 0))), (q97, .inl (cI, 8, .inl (fun _ => 0))), (q110, .inl (cI, 8, .inl (fun _ => 0)))] := hD
  refine lv_aload_n hx hb dX2_init_115 rfl (lv_at hl 0 rfl) ?_
  refine lv_iconst (v := 0) hx hb dX2_init_116 (by decide) ?_
  refine va_put (D := D) (ci := 2) (v := .int 0) (ty := .int) (C := RX2) (T := TX2) (N := 17) hx hb hts hinw tyX2 tyX2_ok nmX2 hown hK hP hD hS 0 rfl rfl 15 (by decide) (hts (.fieldLink RX2 59 "CornerLabels$Plans" "topWeight" "I") (by decide +kernel)) (fun _ h9 => h9) rfl (by decide +kernel) rfl rfl (Nat.le_of_ble_eq_true rfl) dX2_init_117 (fun H locs hP hD hS => ?_)
  have hP : va_P D vwCl [(h0, .inr (2, [.int 0, .ref q12, .ref q20, .ref q28, .ref q36, .ref q44, .int 0, .ref q57, .ref q65, .ref q73, .ref q81, .ref q89, .ref q97, .int (-1), .ref q110, .int 0, .null])), (q12, .inl (cI, 8, .inl (fun _ => 0))), (q20, .inl (cI, 8, .inl (fun _ => 0))), (q28, .inl (cI, 8, .inl (fun _ => 0))), (q36, .inl (cI, 32, .inl (fun _ => 0))), (q44, .inl (cI, 8, .inl (fun _ => 0))), (q57, .inl (cZ, 8, .inl (fun _ => 0))), (q65, .inl (cI, 32, .inl (fun _ => 0))), (q73, .inl (cI, 8, .inl (fun _ => 0))), (q81, .inl (cI, 9, .inl (fun _ => 0))), (q89, .inl (cI, 8, .inl (fun _ => 0))), (q97, .inl (cI, 8, .inl (fun _ => 0))), (q110, .inl (cI, 8, .inl (fun _ => 0)))] H := hP
  have hD : va_D A [(h0, .inr (2, [.int 0, .ref q12, .ref q20, .ref q28, .ref q36, .ref q44, .int 0, .ref q57, .ref q65, .ref q73, .ref q81, .ref q89, .ref q97, .int (-1), .ref q110, .int 0, .null])), (q12, .inl (cI, 8, .inl (fun _ => 0))), (q20, .inl (cI, 8, .inl (fun _ => 0))), (q28, .inl (cI, 8, .inl (fun _ => 0))), (q36, .inl (cI, 32, .inl (fun _ => 0))), (q44, .inl (cI, 8, .inl (fun _ => 0))), (q57, .inl (cZ, 8, .inl (fun _ => 0))), (q65, .inl (cI, 32, .inl (fun _ => 0))), (q73, .inl (cI, 8, .inl (fun _ => 0))), (q81, .inl (cI, 9, .inl (fun _ => 0))), (q89, .inl (cI, 8, .inl (fun _ => 0))), (q97, .inl (cI, 8, .inl (fun _ => 0))), (q110, .inl (cI, 8, .inl (fun _ => 0)))] := hD
  refine lv_aload_n hx hb dX2_init_120 rfl (lv_at hl 0 rfl) ?_
  refine lv_bipush (v := 8) hx hb dX2_init_121 (by decide) ?_
  refine va_newa (atype := .int) (ty := .int) (N' := 8) (a0 := (8, .inl (fun _ => 0))) hx hb (hts (.arrayClass .int) (by decide +kernel)) rfl hK hP hD hS hA (fun _ => rfl) (by decide) (by decide) (by show 8 * _ ≤ 536870912; exact Nat.le_of_ble_eq_true rfl) (Nat.le_of_ble_eq_true rfl) (Nat.le_of_ble_eq_true rfl) dX2_init_123 (fun q123 cA9 H hK9 hP hD hS => ?_)
  have ec9 : cA9 = cI := K_uni hK9 (k := 0) rfl (fun C h => by cases h)
  rw [ec9] at hP hD
  have hP : va_P D vwCl [(h0, .inr (2, [.int 0, .ref q12, .ref q20, .ref q28, .ref q36, .ref q44, .int 0, .ref q57, .ref q65, .ref q73, .ref q81, .ref q89, .ref q97, .int (-1), .ref q110, .int 0, .null])), (q12, .inl (cI, 8, .inl (fun _ => 0))), (q20, .inl (cI, 8, .inl (fun _ => 0))), (q28, .inl (cI, 8, .inl (fun _ => 0))), (q36, .inl (cI, 32, .inl (fun _ => 0))), (q44, .inl (cI, 8, .inl (fun _ => 0))), (q57, .inl (cZ, 8, .inl (fun _ => 0))), (q65, .inl (cI, 32, .inl (fun _ => 0))), (q73, .inl (cI, 8, .inl (fun _ => 0))), (q81, .inl (cI, 9, .inl (fun _ => 0))), (q89, .inl (cI, 8, .inl (fun _ => 0))), (q97, .inl (cI, 8, .inl (fun _ => 0))), (q110, .inl (cI, 8, .inl (fun _ => 0))), (q123, .inl (cI, 8, .inl (fun _ => 0)))] H := hP
  have hD : va_D A [(h0, .inr (2, [.int 0, .ref q12, .ref q20, .ref q28, .ref q36, .ref q44, .int 0, .ref q57, .ref q65, .ref q73, .ref q81, .ref q89, .ref q97, .int (-1), .ref q110, .int 0, .null])), (q12, .inl (cI, 8, .inl (fun _ => 0))), (q20, .inl (cI, 8, .inl (fun _ => 0))), (q28, .inl (cI, 8, .inl (fun _ => 0))), (q36, .inl (cI, 32, .inl (fun _ => 0))), (q44, .inl (cI, 8, .inl (fun _ => 0))), (q57, .inl (cZ, 8, .inl (fun _ => 0))), (q65, .inl (cI, 32, .inl (fun _ => 0))), (q73, .inl (cI, 8, .inl (fun _ => 0))), (q81, .inl (cI, 9, .inl (fun _ => 0))), (q89, .inl (cI, 8, .inl (fun _ => 0))), (q97, .inl (cI, 8, .inl (fun _ => 0))), (q110, .inl (cI, 8, .inl (fun _ => 0))), (q123, .inl (cI, 8, .inl (fun _ => 0)))] := hD
  refine W.widen (k := 13) (n := 153) (by omega) (by omega) ?_
  refine va_putF (D := D) (ci := 2) (v := .ref q123) (ty := (.array .int)) (C := RX2) (T := TX2) (N := 17) hx hb hts hinw tyX2 tyX2_ok nmX2 hown hK hP hD hS 0 rfl rfl 16 (by decide) (hts (.fieldLink RX2 62 "CornerLabels$Plans" "weightsWithout" "[I") (by decide +kernel)) (fun _ h9 => h9) rfl hin rfl (by decide +kernel) rfl rfl (Nat.le_of_ble_eq_true rfl) dX2_init_125 (fun H locs hP hD hS => ?_)
  have hP : va_P D vwCl [(h0, .inr (2, [.int 0, .ref q12, .ref q20, .ref q28, .ref q36, .ref q44, .int 0, .ref q57, .ref q65, .ref q73, .ref q81, .ref q89, .ref q97, .int (-1), .ref q110, .int 0, .ref q123])), (q12, .inl (cI, 8, .inl (fun _ => 0))), (q20, .inl (cI, 8, .inl (fun _ => 0))), (q28, .inl (cI, 8, .inl (fun _ => 0))), (q36, .inl (cI, 32, .inl (fun _ => 0))), (q44, .inl (cI, 8, .inl (fun _ => 0))), (q57, .inl (cZ, 8, .inl (fun _ => 0))), (q65, .inl (cI, 32, .inl (fun _ => 0))), (q73, .inl (cI, 8, .inl (fun _ => 0))), (q81, .inl (cI, 9, .inl (fun _ => 0))), (q89, .inl (cI, 8, .inl (fun _ => 0))), (q97, .inl (cI, 8, .inl (fun _ => 0))), (q110, .inl (cI, 8, .inl (fun _ => 0))), (q123, .inl (cI, 8, .inl (fun _ => 0)))] H := hP
  have hD : va_D A [(h0, .inr (2, [.int 0, .ref q12, .ref q20, .ref q28, .ref q36, .ref q44, .int 0, .ref q57, .ref q65, .ref q73, .ref q81, .ref q89, .ref q97, .int (-1), .ref q110, .int 0, .ref q123])), (q12, .inl (cI, 8, .inl (fun _ => 0))), (q20, .inl (cI, 8, .inl (fun _ => 0))), (q28, .inl (cI, 8, .inl (fun _ => 0))), (q36, .inl (cI, 32, .inl (fun _ => 0))), (q44, .inl (cI, 8, .inl (fun _ => 0))), (q57, .inl (cZ, 8, .inl (fun _ => 0))), (q65, .inl (cI, 32, .inl (fun _ => 0))), (q73, .inl (cI, 8, .inl (fun _ => 0))), (q81, .inl (cI, 9, .inl (fun _ => 0))), (q89, .inl (cI, 8, .inl (fun _ => 0))), (q97, .inl (cI, 8, .inl (fun _ => 0))), (q110, .inl (cI, 8, .inl (fun _ => 0))), (q123, .inl (cI, 8, .inl (fun _ => 0)))] := hD
  exact W.vret hx hb hr (fun t ht hW => ⟨⟨_, rfl, ⟨q12, q20, q28, q36, q44, q57, q65, q73, q81, q89, q97, q110, q123, rfl⟩, by rw [ht]; exact hP, hD⟩, hS.F ht⟩) hS.2.2 dX2_init_128
set_option maxHeartbeats 4000000 in
set_option maxRecDepth 100000 in
theorem c_X4_init (l : Launch) (D : va_G) {h0 sz : Nat} {cI cZ : ClassId} : Met l yX4_init wsX4_init ({ frames := 2, cells := 22, slots := 623, locals := 40 } : Room) (va_Pc [.ref h0] (wn_B D sz [(h0, .inr (4, [.null, .null, .null, .null]))] [(cI, .int), (cZ, .boolean)])) (va_Qv (fun w1 : va_W => ∃ q5 q5_q7 q16 q16_q8 q16_q16 q27 q27_q7 q27_q20 q38 q38_q12 q38_q20 q38_q28 q38_q36 q38_q44 q38_q57 q38_q65 q38_q73 q38_q81 q38_q89 q38_q97 q38_q110 q38_q123 : Nat, w1 = [(h0, .inr (4, [.ref q5, .ref q16, .ref q27, .ref q38])), (q5, .inr (0, [.ref q5_q7, .int 0])), (q5_q7, .inl (cI, 48, .inl (fun _ => 0))), (q16, .inr (1, [.ref q16_q8, .ref q16_q16, .int 0])), (q16_q8, .inl (cI, 288, .inl (fun _ => 0))), (q16_q16, .inl (cI, 6, .inl (fun _ => 0))), (q27, .inr (3, [.ref q27_q7, .int 0, .ref q27_q20, .int 0, .int 0, .int (-1)])), (q27_q7, .inl (cI, 60, .inl (fun _ => 0))), (q27_q20, .inl (cI, 40, .inl (fun _ => 0))), (q38, .inr (2, [.int 0, .ref q38_q12, .ref q38_q20, .ref q38_q28, .ref q38_q36, .ref q38_q44, .int 0, .ref q38_q57, .ref q38_q65, .ref q38_q73, .ref q38_q81, .ref q38_q89, .ref q38_q97, .int (-1), .ref q38_q110, .int 0, .ref q38_q123])), (q38_q12, .inl (cI, 8, .inl (fun _ => 0))), (q38_q20, .inl (cI, 8, .inl (fun _ => 0))), (q38_q28, .inl (cI, 8, .inl (fun _ => 0))), (q38_q36, .inl (cI, 32, .inl (fun _ => 0))), (q38_q44, .inl (cI, 8, .inl (fun _ => 0))), (q38_q57, .inl (cZ, 8, .inl (fun _ => 0))), (q38_q65, .inl (cI, 32, .inl (fun _ => 0))), (q38_q73, .inl (cI, 8, .inl (fun _ => 0))), (q38_q81, .inl (cI, 9, .inl (fun _ => 0))), (q38_q89, .inl (cI, 8, .inl (fun _ => 0))), (q38_q97, .inl (cI, 8, .inl (fun _ => 0))), (q38_q110, .inl (cI, 8, .inl (fun _ => 0))), (q38_q123, .inl (cI, 8, .inl (fun _ => 0)))]) (fun w1 t => va_P D vwCl w1 t.heap ∧ va_D (va_A [(h0, .inr (4, [.null, .null, .null, .null]))] sz) w1) (va_A [(h0, .inr (4, [.null, .null, .null, .null]))] sz)) 22 623 (va_A [(h0, .inr (4, [.null, .null, .null, .null]))] sz) := by
  refine Met.ofW (cc := cX4_init) (maxL := 1) (ret := none) (by decide) rfl ?_
  intro p e s m args below meth c s₁ B hml hv
  obtain ⟨rfl, hsz, hP, hK, hN, hD0⟩ := hv
  have hx := B.exec
  have hb := B.bytes
  have hr := B.returns
  have hts := atoms_spec (ws := wsX4_init) B.pre
  have hown : s.vm.findClass RX4 = some m.cls := findClass_of_methodNamed B.named
  have hlocks := B.notSynchronized
  have hin : meth.name = "<init>" := (name_of_methodNamed B.named B.method).1
  subst hsz
  have hD := hD0.self (sz := s.heap.size)
  generalize hAe : va_A [(h0, .inr (4, [.null, .null, .null, .null]))] s.heap.size = A at hD ⊢
  have hA : ∀ q : Nat, s.heap.size ≤ q → A q := fun q h => by rw [← hAe]; exact Or.inr h
  have hS : va_S A s.heap s.heap [] := va_S.rf
  have hP : va_P D vwCl [(h0, .inr (4, [.null, .null, .null, .null]))] s.heap := hP
  have hl := lv_entry ([.ref h0]) (n := 1) (Nat.le_of_ble_eq_true rfl)
  rw [lg_entry_eq]
  generalize (lg_sl ([.ref h0]) ++ List.replicate (1 - (lg_sl ([.ref h0])).length) Slot.unset).toArray = ls at hl ⊢
  have hl : lv_has ls 1 [(0, .ref h0)] := hl
  refine lv_aload_n hx hb dX4_init_0 rfl (lv_at hl 0 rfl) ?_
  refine W.objInit hx hb hown (hts (.methodLink RX4 1 objectInit) (by decide +kernel)) (hts (.instanceMethod objectInit) (by decide +kernel)) (hts (.code objectInit ⟨#[0xb1]⟩ 1 none) (by decide +kernel)) rfl (by rw [hml]; exact hl.1) rfl dX4_init_1 (Nat.le_of_ble_eq_true rfl) (Nat.le_of_ble_eq_true rfl) ?_
  refine W.eq (g2 := F0 m 4 ls []) rfl ?_
  have hinw : ∀ w ∈ u_ws RX4 TX4 4, w ∈ wsX4_init := by decide +kernel
  have hinwX0 : ∀ w ∈ u_ws RX0 TX0 2, w ∈ wsX4_init := by decide +kernel
  have hinwX1 : ∀ w ∈ u_ws RX1 TX1 3, w ∈ wsX4_init := by decide +kernel
  have hinwX3 : ∀ w ∈ u_ws RX3 TX3 6, w ∈ wsX4_init := by decide +kernel
  have hinwX2 : ∀ w ∈ u_ws RX2 TX2 17, w ∈ wsX4_init := by decide +kernel
  refine lv_aload_n hx hb dX4_init_4 rfl (lv_at hl 0 rfl) ?_
  refine va_new (ci := 0) (fs := [.null, .int 0]) (C := RX0) (T := TX0) (N := 2) hx hb hts hinwX0 tyX0 tyX0_ok hown (hts (.classLink RX4 7 RX0) (by decide +kernel)) (hts (.instantiable RX0 2) (by decide +kernel)) (hts (.initialized RX0) (by decide +kernel)) hK hP hD hS hA rfl (fun j hj => by rcases (show j = 0 ∨ j = 1 by omega) with rfl | rfl <;> rfl) (Nat.le_of_ble_eq_true rfl) (Nat.le_of_ble_eq_true rfl) dX4_init_5 (fun q5 H hP hD hS => ?_)
  have hP : va_P D vwCl [(h0, .inr (4, [.null, .null, .null, .null])), (q5, .inr (0, [.null, .int 0]))] H := hP
  have hD : va_D A [(h0, .inr (4, [.null, .null, .null, .null])), (q5, .inr (0, [.null, .int 0]))] := hD
  refine W.widen (k := 1) (n := 2) (by omega) (by omega) ?_
  refine lv_dup hx hb dX4_init_8 rfl ?_
  have hPc := hP.sub (ws' := [(q5, .inr (0, [.null, .int 0]))]) [1] rfl
  have hDc := hD.sub (ws' := [(q5, .inr (0, [.null, .int 0]))]) [1] (by decide) rfl
  have hFc := va_free (wc := [(q5, .inr (0, [.null, .int 0]))]) hD hS hA [1] rfl
  refine va_callv (va_runIN (As := []) (rest := [.ref q5, .ref h0]) ⟨hx, hb, hml, hown, hts⟩ (c_X0_init l D (h0 := q5) (sz := H.size) (cI := cI) (cZ := cZ)) ⟨va_cnB 0 hts gX4_init_X0_init_n9 rfl rfl rfl hN.1 (hts (.initialized RX0) (by decide +kernel)) (by decide +kernel) ⟨Nat.le_of_ble_eq_true rfl, Nat.le_of_ble_eq_true rfl⟩, rfl, hts (.instanceMethod yX0_init) (by decide +kernel)⟩ ⟨wn_blind, fun U hU hW => ⟨rfl, by rw [hU], by rw [hU]; exact hPc, va_K.moved hW.alike hK, hN.warm hW, hDc.weaken (fun _ _ _ _ => trivial)⟩⟩ rfl rfl hl.1 rfl (lv_room (Nat.le_of_ble_eq_true rfl)) dX4_init_9 ⟨Nat.le_of_ble_eq_true rfl, Nat.le_of_ble_eq_true rfl⟩) hS (fun q _ h => hFc q h) hFc (fun u t H1 locs ht hvm hw hB hz1 hk1 hS => ?_)
  obtain ⟨q5_q7, rfl⟩ := hw
  obtain ⟨hP1, hD1⟩ := hB
  rw [ht] at hP1
  obtain ⟨hP, hD⟩ := va_join (wr := [(h0, .inr (4, [.null, .null, .null, .null]))]) (w1 := [(q5, .inr (0, [.ref q5_q7, .int 0])), (q5_q7, .inl (cI, 48, .inl (fun _ => 0)))]) hP hD [1] [0] rfl rfl (by decide) (by decide) hk1 hFc hP1 hD1
  generalize H1 = H at hP hS ⊢
  have hP : va_P D vwCl [(h0, .inr (4, [.null, .null, .null, .null])), (q5, .inr (0, [.ref q5_q7, .int 0])), (q5_q7, .inl (cI, 48, .inl (fun _ => 0)))] H := hP
  have hD : va_D A [(h0, .inr (4, [.null, .null, .null, .null])), (q5, .inr (0, [.ref q5_q7, .int 0])), (q5_q7, .inl (cI, 48, .inl (fun _ => 0)))] := hD
  refine W.widen (k := 2) (n := 50) (by omega) (by omega) ?_
  refine va_putF (D := D) (ci := 4) (v := .ref q5) (ty := (.object "CornerLabels$Board")) (C := RX4) (T := TX4) (N := 4) hx hb hts hinw tyX4 tyX4_ok nmX4 hown hK hP hD hS 0 rfl rfl 0 (by decide) (hts (.fieldLink RX4 10 "CornerLabels" "board" "LCornerLabels$Board;") (by decide +kernel)) (fun _ h9 => h9) rfl hin rfl (by decide +kernel) rfl rfl (Nat.le_of_ble_eq_true rfl) dX4_init_12 (fun H locs hP hD hS => ?_)
  have hP : va_P D vwCl [(h0, .inr (4, [.ref q5, .null, .null, .null])), (q5, .inr (0, [.ref q5_q7, .int 0])), (q5_q7, .inl (cI, 48, .inl (fun _ => 0)))] H := hP
  have hD : va_D A [(h0, .inr (4, [.ref q5, .null, .null, .null])), (q5, .inr (0, [.ref q5_q7, .int 0])), (q5_q7, .inl (cI, 48, .inl (fun _ => 0)))] := hD
  refine lv_aload_n hx hb dX4_init_15 rfl (lv_at hl 0 rfl) ?_
  refine va_new (ci := 1) (fs := [.null, .null, .int 0]) (C := RX1) (T := TX1) (N := 3) hx hb hts hinwX1 tyX1 tyX1_ok hown (hts (.classLink RX4 16 RX1) (by decide +kernel)) (hts (.instantiable RX1 3) (by decide +kernel)) (hts (.initialized RX1) (by decide +kernel)) hK hP hD hS hA rfl (fun j hj => by rcases (show j = 0 ∨ j = 1 ∨ j = 2 by omega) with rfl | rfl | rfl <;> rfl) (Nat.le_of_ble_eq_true rfl) (Nat.le_of_ble_eq_true rfl) dX4_init_16 (fun q16 H hP hD hS => ?_)
  have hP : va_P D vwCl [(h0, .inr (4, [.ref q5, .null, .null, .null])), (q5, .inr (0, [.ref q5_q7, .int 0])), (q5_q7, .inl (cI, 48, .inl (fun _ => 0))), (q16, .inr (1, [.null, .null, .int 0]))] H := hP
  have hD : va_D A [(h0, .inr (4, [.ref q5, .null, .null, .null])), (q5, .inr (0, [.ref q5_q7, .int 0])), (q5_q7, .inl (cI, 48, .inl (fun _ => 0))), (q16, .inr (1, [.null, .null, .int 0]))] := hD
  refine W.widen (k := 3) (n := 53) (by omega) (by omega) ?_
  refine lv_dup hx hb dX4_init_19 rfl ?_
  have hPc := hP.sub (ws' := [(q16, .inr (1, [.null, .null, .int 0]))]) [3] rfl
  have hDc := hD.sub (ws' := [(q16, .inr (1, [.null, .null, .int 0]))]) [3] (by decide) rfl
  have hFc := va_free (wc := [(q16, .inr (1, [.null, .null, .int 0]))]) hD hS hA [3] rfl
  refine va_callv (va_runIN (As := []) (rest := [.ref q16, .ref h0]) ⟨hx, hb, hml, hown, hts⟩ (c_X1_init l D (h0 := q16) (sz := H.size) (cI := cI) (cZ := cZ)) ⟨va_cnB 0 hts gX4_init_X1_init_n18 rfl rfl rfl hN.2.1 (hts (.initialized RX1) (by decide +kernel)) (by decide +kernel) ⟨Nat.le_of_ble_eq_true rfl, Nat.le_of_ble_eq_true rfl⟩, rfl, hts (.instanceMethod yX1_init) (by decide +kernel)⟩ ⟨wn_blind, fun U hU hW => ⟨rfl, by rw [hU], by rw [hU]; exact hPc, va_K.moved hW.alike hK, hN.warm hW, hDc.weaken (fun _ _ _ _ => trivial)⟩⟩ rfl rfl hl.1 rfl (lv_room (Nat.le_of_ble_eq_true rfl)) dX4_init_20 ⟨Nat.le_of_ble_eq_true rfl, Nat.le_of_ble_eq_true rfl⟩) hS (fun q _ h => hFc q h) hFc (fun u t H1 locs ht hvm hw hB hz1 hk1 hS => ?_)
  obtain ⟨q16_q8, q16_q16, rfl⟩ := hw
  obtain ⟨hP1, hD1⟩ := hB
  rw [ht] at hP1
  obtain ⟨hP, hD⟩ := va_join (wr := [(h0, .inr (4, [.ref q5, .null, .null, .null])), (q5, .inr (0, [.ref q5_q7, .int 0])), (q5_q7, .inl (cI, 48, .inl (fun _ => 0)))]) (w1 := [(q16, .inr (1, [.ref q16_q8, .ref q16_q16, .int 0])), (q16_q8, .inl (cI, 288, .inl (fun _ => 0))), (q16_q16, .inl (cI, 6, .inl (fun _ => 0)))]) hP hD [3] [0, 1, 2] rfl rfl (by decide) (by decide) hk1 hFc hP1 hD1
  generalize H1 = H at hP hS ⊢
  have hP : va_P D vwCl [(h0, .inr (4, [.ref q5, .null, .null, .null])), (q5, .inr (0, [.ref q5_q7, .int 0])), (q5_q7, .inl (cI, 48, .inl (fun _ => 0))), (q16, .inr (1, [.ref q16_q8, .ref q16_q16, .int 0])), (q16_q8, .inl (cI, 288, .inl (fun _ => 0))), (q16_q16, .inl (cI, 6, .inl (fun _ => 0)))] H := hP
  have hD : va_D A [(h0, .inr (4, [.ref q5, .null, .null, .null])), (q5, .inr (0, [.ref q5_q7, .int 0])), (q5_q7, .inl (cI, 48, .inl (fun _ => 0))), (q16, .inr (1, [.ref q16_q8, .ref q16_q16, .int 0])), (q16_q8, .inl (cI, 288, .inl (fun _ => 0))), (q16_q16, .inl (cI, 6, .inl (fun _ => 0)))] := hD
  refine W.widen (k := 5) (n := 347) (by omega) (by omega) ?_
  refine va_putF (D := D) (ci := 4) (v := .ref q16) (ty := (.object "CornerLabels$History")) (C := RX4) (T := TX4) (N := 4) hx hb hts hinw tyX4 tyX4_ok nmX4 hown hK hP hD hS 0 rfl rfl 1 (by decide) (hts (.fieldLink RX4 19 "CornerLabels" "history" "LCornerLabels$History;") (by decide +kernel)) (fun _ h9 => h9) rfl hin rfl (by decide +kernel) rfl rfl (Nat.le_of_ble_eq_true rfl) dX4_init_23 (fun H locs hP hD hS => ?_)
  have hP : va_P D vwCl [(h0, .inr (4, [.ref q5, .ref q16, .null, .null])), (q5, .inr (0, [.ref q5_q7, .int 0])), (q5_q7, .inl (cI, 48, .inl (fun _ => 0))), (q16, .inr (1, [.ref q16_q8, .ref q16_q16, .int 0])), (q16_q8, .inl (cI, 288, .inl (fun _ => 0))), (q16_q16, .inl (cI, 6, .inl (fun _ => 0)))] H := hP
  have hD : va_D A [(h0, .inr (4, [.ref q5, .ref q16, .null, .null])), (q5, .inr (0, [.ref q5_q7, .int 0])), (q5_q7, .inl (cI, 48, .inl (fun _ => 0))), (q16, .inr (1, [.ref q16_q8, .ref q16_q16, .int 0])), (q16_q8, .inl (cI, 288, .inl (fun _ => 0))), (q16_q16, .inl (cI, 6, .inl (fun _ => 0)))] := hD
  refine lv_aload_n hx hb dX4_init_26 rfl (lv_at hl 0 rfl) ?_
  refine va_new (ci := 3) (fs := [.null, .int 0, .null, .int 0, .int 0, .int 0]) (C := RX3) (T := TX3) (N := 6) hx hb hts hinwX3 tyX3 tyX3_ok hown (hts (.classLink RX4 23 RX3) (by decide +kernel)) (hts (.instantiable RX3 6) (by decide +kernel)) (hts (.initialized RX3) (by decide +kernel)) hK hP hD hS hA rfl (fun j hj => by rcases (show j = 0 ∨ j = 1 ∨ j = 2 ∨ j = 3 ∨ j = 4 ∨ j = 5 by omega) with rfl | rfl | rfl | rfl | rfl | rfl <;> rfl) (Nat.le_of_ble_eq_true rfl) (Nat.le_of_ble_eq_true rfl) dX4_init_27 (fun q27 H hP hD hS => ?_)
  have hP : va_P D vwCl [(h0, .inr (4, [.ref q5, .ref q16, .null, .null])), (q5, .inr (0, [.ref q5_q7, .int 0])), (q5_q7, .inl (cI, 48, .inl (fun _ => 0))), (q16, .inr (1, [.ref q16_q8, .ref q16_q16, .int 0])), (q16_q8, .inl (cI, 288, .inl (fun _ => 0))), (q16_q16, .inl (cI, 6, .inl (fun _ => 0))), (q27, .inr (3, [.null, .int 0, .null, .int 0, .int 0, .int 0]))] H := hP
  have hD : va_D A [(h0, .inr (4, [.ref q5, .ref q16, .null, .null])), (q5, .inr (0, [.ref q5_q7, .int 0])), (q5_q7, .inl (cI, 48, .inl (fun _ => 0))), (q16, .inr (1, [.ref q16_q8, .ref q16_q16, .int 0])), (q16_q8, .inl (cI, 288, .inl (fun _ => 0))), (q16_q16, .inl (cI, 6, .inl (fun _ => 0))), (q27, .inr (3, [.null, .int 0, .null, .int 0, .int 0, .int 0]))] := hD
  refine W.widen (k := 6) (n := 353) (by omega) (by omega) ?_
  refine lv_dup hx hb dX4_init_30 rfl ?_
  have hPc := hP.sub (ws' := [(q27, .inr (3, [.null, .int 0, .null, .int 0, .int 0, .int 0]))]) [6] rfl
  have hDc := hD.sub (ws' := [(q27, .inr (3, [.null, .int 0, .null, .int 0, .int 0, .int 0]))]) [6] (by decide) rfl
  have hFc := va_free (wc := [(q27, .inr (3, [.null, .int 0, .null, .int 0, .int 0, .int 0]))]) hD hS hA [6] rfl
  refine va_callv (va_runIN (As := []) (rest := [.ref q27, .ref h0]) ⟨hx, hb, hml, hown, hts⟩ (c_X3_init l D (h0 := q27) (sz := H.size) (cI := cI) (cZ := cZ)) ⟨va_cnB 0 hts gX4_init_X3_init_n25 rfl rfl rfl hN.2.2.1 (hts (.initialized RX3) (by decide +kernel)) (by decide +kernel) ⟨Nat.le_of_ble_eq_true rfl, Nat.le_of_ble_eq_true rfl⟩, rfl, hts (.instanceMethod yX3_init) (by decide +kernel)⟩ ⟨wn_blind, fun U hU hW => ⟨rfl, by rw [hU], by rw [hU]; exact hPc, va_K.moved hW.alike hK, hN.warm hW, hDc.weaken (fun _ _ _ _ => trivial)⟩⟩ rfl rfl hl.1 rfl (lv_room (Nat.le_of_ble_eq_true rfl)) dX4_init_31 ⟨Nat.le_of_ble_eq_true rfl, Nat.le_of_ble_eq_true rfl⟩) hS (fun q _ h => hFc q h) hFc (fun u t H1 locs ht hvm hw hB hz1 hk1 hS => ?_)
  obtain ⟨q27_q7, q27_q20, rfl⟩ := hw
  obtain ⟨hP1, hD1⟩ := hB
  rw [ht] at hP1
  obtain ⟨hP, hD⟩ := va_join (wr := [(h0, .inr (4, [.ref q5, .ref q16, .null, .null])), (q5, .inr (0, [.ref q5_q7, .int 0])), (q5_q7, .inl (cI, 48, .inl (fun _ => 0))), (q16, .inr (1, [.ref q16_q8, .ref q16_q16, .int 0])), (q16_q8, .inl (cI, 288, .inl (fun _ => 0))), (q16_q16, .inl (cI, 6, .inl (fun _ => 0)))]) (w1 := [(q27, .inr (3, [.ref q27_q7, .int 0, .ref q27_q20, .int 0, .int 0, .int (-1)])), (q27_q7, .inl (cI, 60, .inl (fun _ => 0))), (q27_q20, .inl (cI, 40, .inl (fun _ => 0)))]) hP hD [6] [0, 1, 2, 3, 4, 5] rfl rfl (by decide) (by decide) hk1 hFc hP1 hD1
  generalize H1 = H at hP hS ⊢
  have hP : va_P D vwCl [(h0, .inr (4, [.ref q5, .ref q16, .null, .null])), (q5, .inr (0, [.ref q5_q7, .int 0])), (q5_q7, .inl (cI, 48, .inl (fun _ => 0))), (q16, .inr (1, [.ref q16_q8, .ref q16_q16, .int 0])), (q16_q8, .inl (cI, 288, .inl (fun _ => 0))), (q16_q16, .inl (cI, 6, .inl (fun _ => 0))), (q27, .inr (3, [.ref q27_q7, .int 0, .ref q27_q20, .int 0, .int 0, .int (-1)])), (q27_q7, .inl (cI, 60, .inl (fun _ => 0))), (q27_q20, .inl (cI, 40, .inl (fun _ => 0)))] H := hP
  have hD : va_D A [(h0, .inr (4, [.ref q5, .ref q16, .null, .null])), (q5, .inr (0, [.ref q5_q7, .int 0])), (q5_q7, .inl (cI, 48, .inl (fun _ => 0))), (q16, .inr (1, [.ref q16_q8, .ref q16_q16, .int 0])), (q16_q8, .inl (cI, 288, .inl (fun _ => 0))), (q16_q16, .inl (cI, 6, .inl (fun _ => 0))), (q27, .inr (3, [.ref q27_q7, .int 0, .ref q27_q20, .int 0, .int 0, .int (-1)])), (q27_q7, .inl (cI, 60, .inl (fun _ => 0))), (q27_q20, .inl (cI, 40, .inl (fun _ => 0)))] := hD
  refine W.widen (k := 8) (n := 453) (by omega) (by omega) ?_
  refine va_putF (D := D) (ci := 4) (v := .ref q27) (ty := (.object "CornerLabels$Typed")) (C := RX4) (T := TX4) (N := 4) hx hb hts hinw tyX4 tyX4_ok nmX4 hown hK hP hD hS 0 rfl rfl 2 (by decide) (hts (.fieldLink RX4 26 "CornerLabels" "typed" "LCornerLabels$Typed;") (by decide +kernel)) (fun _ h9 => h9) rfl hin rfl (by decide +kernel) rfl rfl (Nat.le_of_ble_eq_true rfl) dX4_init_34 (fun H locs hP hD hS => ?_)
  have hP : va_P D vwCl [(h0, .inr (4, [.ref q5, .ref q16, .ref q27, .null])), (q5, .inr (0, [.ref q5_q7, .int 0])), (q5_q7, .inl (cI, 48, .inl (fun _ => 0))), (q16, .inr (1, [.ref q16_q8, .ref q16_q16, .int 0])), (q16_q8, .inl (cI, 288, .inl (fun _ => 0))), (q16_q16, .inl (cI, 6, .inl (fun _ => 0))), (q27, .inr (3, [.ref q27_q7, .int 0, .ref q27_q20, .int 0, .int 0, .int (-1)])), (q27_q7, .inl (cI, 60, .inl (fun _ => 0))), (q27_q20, .inl (cI, 40, .inl (fun _ => 0)))] H := hP
  have hD : va_D A [(h0, .inr (4, [.ref q5, .ref q16, .ref q27, .null])), (q5, .inr (0, [.ref q5_q7, .int 0])), (q5_q7, .inl (cI, 48, .inl (fun _ => 0))), (q16, .inr (1, [.ref q16_q8, .ref q16_q16, .int 0])), (q16_q8, .inl (cI, 288, .inl (fun _ => 0))), (q16_q16, .inl (cI, 6, .inl (fun _ => 0))), (q27, .inr (3, [.ref q27_q7, .int 0, .ref q27_q20, .int 0, .int 0, .int (-1)])), (q27_q7, .inl (cI, 60, .inl (fun _ => 0))), (q27_q20, .inl (cI, 40, .inl (fun _ => 0)))] := hD
  refine lv_aload_n hx hb dX4_init_37 rfl (lv_at hl 0 rfl) ?_
  refine va_new (ci := 2) (fs := [.int 0, .null, .null, .null, .null, .null, .int 0, .null, .null, .null, .null, .null, .null, .int 0, .null, .int 0, .null]) (C := RX2) (T := TX2) (N := 17) hx hb hts hinwX2 tyX2 tyX2_ok hown (hts (.classLink RX4 30 RX2) (by decide +kernel)) (hts (.instantiable RX2 17) (by decide +kernel)) (hts (.initialized RX2) (by decide +kernel)) hK hP hD hS hA rfl (fun j hj => by rcases (show j = 0 ∨ j = 1 ∨ j = 2 ∨ j = 3 ∨ j = 4 ∨ j = 5 ∨ j = 6 ∨ j = 7 ∨ j = 8 ∨ j = 9 ∨ j = 10 ∨ j = 11 ∨ j = 12 ∨ j = 13 ∨ j = 14 ∨ j = 15 ∨ j = 16 by omega) with rfl | rfl | rfl | rfl | rfl | rfl | rfl | rfl | rfl | rfl | rfl | rfl | rfl | rfl | rfl | rfl | rfl <;> rfl) (Nat.le_of_ble_eq_true rfl) (Nat.le_of_ble_eq_true rfl) dX4_init_38 (fun q38 H hP hD hS => ?_)
  have hP : va_P D vwCl [(h0, .inr (4, [.ref q5, .ref q16, .ref q27, .null])), (q5, .inr (0, [.ref q5_q7, .int 0])), (q5_q7, .inl (cI, 48, .inl (fun _ => 0))), (q16, .inr (1, [.ref q16_q8, .ref q16_q16, .int 0])), (q16_q8, .inl (cI, 288, .inl (fun _ => 0))), (q16_q16, .inl (cI, 6, .inl (fun _ => 0))), (q27, .inr (3, [.ref q27_q7, .int 0, .ref q27_q20, .int 0, .int 0, .int (-1)])), (q27_q7, .inl (cI, 60, .inl (fun _ => 0))), (q27_q20, .inl (cI, 40, .inl (fun _ => 0))), (q38, .inr (2, [.int 0, .null, .null, .null, .null, .null, .int 0, .null, .null, .null, .null, .null, .null, .int 0, .null, .int 0, .null]))] H := hP
  have hD : va_D A [(h0, .inr (4, [.ref q5, .ref q16, .ref q27, .null])), (q5, .inr (0, [.ref q5_q7, .int 0])), (q5_q7, .inl (cI, 48, .inl (fun _ => 0))), (q16, .inr (1, [.ref q16_q8, .ref q16_q16, .int 0])), (q16_q8, .inl (cI, 288, .inl (fun _ => 0))), (q16_q16, .inl (cI, 6, .inl (fun _ => 0))), (q27, .inr (3, [.ref q27_q7, .int 0, .ref q27_q20, .int 0, .int 0, .int (-1)])), (q27_q7, .inl (cI, 60, .inl (fun _ => 0))), (q27_q20, .inl (cI, 40, .inl (fun _ => 0))), (q38, .inr (2, [.int 0, .null, .null, .null, .null, .null, .int 0, .null, .null, .null, .null, .null, .null, .int 0, .null, .int 0, .null]))] := hD
  refine W.widen (k := 9) (n := 470) (by omega) (by omega) ?_
  refine lv_dup hx hb dX4_init_41 rfl ?_
  have hPc := hP.sub (ws' := [(q38, .inr (2, [.int 0, .null, .null, .null, .null, .null, .int 0, .null, .null, .null, .null, .null, .null, .int 0, .null, .int 0, .null]))]) [9] rfl
  have hDc := hD.sub (ws' := [(q38, .inr (2, [.int 0, .null, .null, .null, .null, .null, .int 0, .null, .null, .null, .null, .null, .null, .int 0, .null, .int 0, .null]))]) [9] (by decide) rfl
  have hFc := va_free (wc := [(q38, .inr (2, [.int 0, .null, .null, .null, .null, .null, .int 0, .null, .null, .null, .null, .null, .null, .int 0, .null, .int 0, .null]))]) hD hS hA [9] rfl
  refine va_callv (va_runIN (As := []) (rest := [.ref q38, .ref h0]) ⟨hx, hb, hml, hown, hts⟩ (c_X2_init l D (h0 := q38) (sz := H.size) (cI := cI) (cZ := cZ)) ⟨va_cnB 0 hts gX4_init_X2_init_n32 rfl rfl rfl hN.2.2.2 (hts (.initialized RX2) (by decide +kernel)) (by decide +kernel) ⟨Nat.le_of_ble_eq_true rfl, Nat.le_of_ble_eq_true rfl⟩, rfl, hts (.instanceMethod yX2_init) (by decide +kernel)⟩ ⟨wn_blind, fun U hU hW => ⟨rfl, by rw [hU], by rw [hU]; exact hPc, va_K.moved hW.alike hK, hN.warm hW, hDc.weaken (fun _ _ _ _ => trivial)⟩⟩ rfl rfl hl.1 rfl (lv_room (Nat.le_of_ble_eq_true rfl)) dX4_init_42 ⟨Nat.le_of_ble_eq_true rfl, Nat.le_of_ble_eq_true rfl⟩) hS (fun q _ h => hFc q h) hFc (fun u t H1 locs ht hvm hw hB hz1 hk1 hS => ?_)
  obtain ⟨q38_q12, q38_q20, q38_q28, q38_q36, q38_q44, q38_q57, q38_q65, q38_q73, q38_q81, q38_q89, q38_q97, q38_q110, q38_q123, rfl⟩ := hw
  obtain ⟨hP1, hD1⟩ := hB
  rw [ht] at hP1
  obtain ⟨hP, hD⟩ := va_join (wr := [(h0, .inr (4, [.ref q5, .ref q16, .ref q27, .null])), (q5, .inr (0, [.ref q5_q7, .int 0])), (q5_q7, .inl (cI, 48, .inl (fun _ => 0))), (q16, .inr (1, [.ref q16_q8, .ref q16_q16, .int 0])), (q16_q8, .inl (cI, 288, .inl (fun _ => 0))), (q16_q16, .inl (cI, 6, .inl (fun _ => 0))), (q27, .inr (3, [.ref q27_q7, .int 0, .ref q27_q20, .int 0, .int 0, .int (-1)])), (q27_q7, .inl (cI, 60, .inl (fun _ => 0))), (q27_q20, .inl (cI, 40, .inl (fun _ => 0)))]) (w1 := [(q38, .inr (2, [.int 0, .ref q38_q12, .ref q38_q20, .ref q38_q28, .ref q38_q36, .ref q38_q44, .int 0, .ref q38_q57, .ref q38_q65, .ref q38_q73, .ref q38_q81, .ref q38_q89, .ref q38_q97, .int (-1), .ref q38_q110, .int 0, .ref q38_q123])), (q38_q12, .inl (cI, 8, .inl (fun _ => 0))), (q38_q20, .inl (cI, 8, .inl (fun _ => 0))), (q38_q28, .inl (cI, 8, .inl (fun _ => 0))), (q38_q36, .inl (cI, 32, .inl (fun _ => 0))), (q38_q44, .inl (cI, 8, .inl (fun _ => 0))), (q38_q57, .inl (cZ, 8, .inl (fun _ => 0))), (q38_q65, .inl (cI, 32, .inl (fun _ => 0))), (q38_q73, .inl (cI, 8, .inl (fun _ => 0))), (q38_q81, .inl (cI, 9, .inl (fun _ => 0))), (q38_q89, .inl (cI, 8, .inl (fun _ => 0))), (q38_q97, .inl (cI, 8, .inl (fun _ => 0))), (q38_q110, .inl (cI, 8, .inl (fun _ => 0))), (q38_q123, .inl (cI, 8, .inl (fun _ => 0)))]) hP hD [9] [0, 1, 2, 3, 4, 5, 6, 7, 8] rfl rfl (by decide) (by decide) hk1 hFc hP1 hD1
  generalize H1 = H at hP hS ⊢
  have hP : va_P D vwCl [(h0, .inr (4, [.ref q5, .ref q16, .ref q27, .null])), (q5, .inr (0, [.ref q5_q7, .int 0])), (q5_q7, .inl (cI, 48, .inl (fun _ => 0))), (q16, .inr (1, [.ref q16_q8, .ref q16_q16, .int 0])), (q16_q8, .inl (cI, 288, .inl (fun _ => 0))), (q16_q16, .inl (cI, 6, .inl (fun _ => 0))), (q27, .inr (3, [.ref q27_q7, .int 0, .ref q27_q20, .int 0, .int 0, .int (-1)])), (q27_q7, .inl (cI, 60, .inl (fun _ => 0))), (q27_q20, .inl (cI, 40, .inl (fun _ => 0))), (q38, .inr (2, [.int 0, .ref q38_q12, .ref q38_q20, .ref q38_q28, .ref q38_q36, .ref q38_q44, .int 0, .ref q38_q57, .ref q38_q65, .ref q38_q73, .ref q38_q81, .ref q38_q89, .ref q38_q97, .int (-1), .ref q38_q110, .int 0, .ref q38_q123])), (q38_q12, .inl (cI, 8, .inl (fun _ => 0))), (q38_q20, .inl (cI, 8, .inl (fun _ => 0))), (q38_q28, .inl (cI, 8, .inl (fun _ => 0))), (q38_q36, .inl (cI, 32, .inl (fun _ => 0))), (q38_q44, .inl (cI, 8, .inl (fun _ => 0))), (q38_q57, .inl (cZ, 8, .inl (fun _ => 0))), (q38_q65, .inl (cI, 32, .inl (fun _ => 0))), (q38_q73, .inl (cI, 8, .inl (fun _ => 0))), (q38_q81, .inl (cI, 9, .inl (fun _ => 0))), (q38_q89, .inl (cI, 8, .inl (fun _ => 0))), (q38_q97, .inl (cI, 8, .inl (fun _ => 0))), (q38_q110, .inl (cI, 8, .inl (fun _ => 0))), (q38_q123, .inl (cI, 8, .inl (fun _ => 0)))] H := hP
  have hD : va_D A [(h0, .inr (4, [.ref q5, .ref q16, .ref q27, .null])), (q5, .inr (0, [.ref q5_q7, .int 0])), (q5_q7, .inl (cI, 48, .inl (fun _ => 0))), (q16, .inr (1, [.ref q16_q8, .ref q16_q16, .int 0])), (q16_q8, .inl (cI, 288, .inl (fun _ => 0))), (q16_q16, .inl (cI, 6, .inl (fun _ => 0))), (q27, .inr (3, [.ref q27_q7, .int 0, .ref q27_q20, .int 0, .int 0, .int (-1)])), (q27_q7, .inl (cI, 60, .inl (fun _ => 0))), (q27_q20, .inl (cI, 40, .inl (fun _ => 0))), (q38, .inr (2, [.int 0, .ref q38_q12, .ref q38_q20, .ref q38_q28, .ref q38_q36, .ref q38_q44, .int 0, .ref q38_q57, .ref q38_q65, .ref q38_q73, .ref q38_q81, .ref q38_q89, .ref q38_q97, .int (-1), .ref q38_q110, .int 0, .ref q38_q123])), (q38_q12, .inl (cI, 8, .inl (fun _ => 0))), (q38_q20, .inl (cI, 8, .inl (fun _ => 0))), (q38_q28, .inl (cI, 8, .inl (fun _ => 0))), (q38_q36, .inl (cI, 32, .inl (fun _ => 0))), (q38_q44, .inl (cI, 8, .inl (fun _ => 0))), (q38_q57, .inl (cZ, 8, .inl (fun _ => 0))), (q38_q65, .inl (cI, 32, .inl (fun _ => 0))), (q38_q73, .inl (cI, 8, .inl (fun _ => 0))), (q38_q81, .inl (cI, 9, .inl (fun _ => 0))), (q38_q89, .inl (cI, 8, .inl (fun _ => 0))), (q38_q97, .inl (cI, 8, .inl (fun _ => 0))), (q38_q110, .inl (cI, 8, .inl (fun _ => 0))), (q38_q123, .inl (cI, 8, .inl (fun _ => 0)))] := hD
  refine W.widen (k := 22) (n := 623) (by omega) (by omega) ?_
  refine va_putF (D := D) (ci := 4) (v := .ref q38) (ty := (.object "CornerLabels$Plans")) (C := RX4) (T := TX4) (N := 4) hx hb hts hinw tyX4 tyX4_ok nmX4 hown hK hP hD hS 0 rfl rfl 3 (by decide) (hts (.fieldLink RX4 33 "CornerLabels" "plans" "LCornerLabels$Plans;") (by decide +kernel)) (fun _ h9 => h9) rfl hin rfl (by decide +kernel) rfl rfl (Nat.le_of_ble_eq_true rfl) dX4_init_45 (fun H locs hP hD hS => ?_)
  have hP : va_P D vwCl [(h0, .inr (4, [.ref q5, .ref q16, .ref q27, .ref q38])), (q5, .inr (0, [.ref q5_q7, .int 0])), (q5_q7, .inl (cI, 48, .inl (fun _ => 0))), (q16, .inr (1, [.ref q16_q8, .ref q16_q16, .int 0])), (q16_q8, .inl (cI, 288, .inl (fun _ => 0))), (q16_q16, .inl (cI, 6, .inl (fun _ => 0))), (q27, .inr (3, [.ref q27_q7, .int 0, .ref q27_q20, .int 0, .int 0, .int (-1)])), (q27_q7, .inl (cI, 60, .inl (fun _ => 0))), (q27_q20, .inl (cI, 40, .inl (fun _ => 0))), (q38, .inr (2, [.int 0, .ref q38_q12, .ref q38_q20, .ref q38_q28, .ref q38_q36, .ref q38_q44, .int 0, .ref q38_q57, .ref q38_q65, .ref q38_q73, .ref q38_q81, .ref q38_q89, .ref q38_q97, .int (-1), .ref q38_q110, .int 0, .ref q38_q123])), (q38_q12, .inl (cI, 8, .inl (fun _ => 0))), (q38_q20, .inl (cI, 8, .inl (fun _ => 0))), (q38_q28, .inl (cI, 8, .inl (fun _ => 0))), (q38_q36, .inl (cI, 32, .inl (fun _ => 0))), (q38_q44, .inl (cI, 8, .inl (fun _ => 0))), (q38_q57, .inl (cZ, 8, .inl (fun _ => 0))), (q38_q65, .inl (cI, 32, .inl (fun _ => 0))), (q38_q73, .inl (cI, 8, .inl (fun _ => 0))), (q38_q81, .inl (cI, 9, .inl (fun _ => 0))), (q38_q89, .inl (cI, 8, .inl (fun _ => 0))), (q38_q97, .inl (cI, 8, .inl (fun _ => 0))), (q38_q110, .inl (cI, 8, .inl (fun _ => 0))), (q38_q123, .inl (cI, 8, .inl (fun _ => 0)))] H := hP
  have hD : va_D A [(h0, .inr (4, [.ref q5, .ref q16, .ref q27, .ref q38])), (q5, .inr (0, [.ref q5_q7, .int 0])), (q5_q7, .inl (cI, 48, .inl (fun _ => 0))), (q16, .inr (1, [.ref q16_q8, .ref q16_q16, .int 0])), (q16_q8, .inl (cI, 288, .inl (fun _ => 0))), (q16_q16, .inl (cI, 6, .inl (fun _ => 0))), (q27, .inr (3, [.ref q27_q7, .int 0, .ref q27_q20, .int 0, .int 0, .int (-1)])), (q27_q7, .inl (cI, 60, .inl (fun _ => 0))), (q27_q20, .inl (cI, 40, .inl (fun _ => 0))), (q38, .inr (2, [.int 0, .ref q38_q12, .ref q38_q20, .ref q38_q28, .ref q38_q36, .ref q38_q44, .int 0, .ref q38_q57, .ref q38_q65, .ref q38_q73, .ref q38_q81, .ref q38_q89, .ref q38_q97, .int (-1), .ref q38_q110, .int 0, .ref q38_q123])), (q38_q12, .inl (cI, 8, .inl (fun _ => 0))), (q38_q20, .inl (cI, 8, .inl (fun _ => 0))), (q38_q28, .inl (cI, 8, .inl (fun _ => 0))), (q38_q36, .inl (cI, 32, .inl (fun _ => 0))), (q38_q44, .inl (cI, 8, .inl (fun _ => 0))), (q38_q57, .inl (cZ, 8, .inl (fun _ => 0))), (q38_q65, .inl (cI, 32, .inl (fun _ => 0))), (q38_q73, .inl (cI, 8, .inl (fun _ => 0))), (q38_q81, .inl (cI, 9, .inl (fun _ => 0))), (q38_q89, .inl (cI, 8, .inl (fun _ => 0))), (q38_q97, .inl (cI, 8, .inl (fun _ => 0))), (q38_q110, .inl (cI, 8, .inl (fun _ => 0))), (q38_q123, .inl (cI, 8, .inl (fun _ => 0)))] := hD
  exact W.vret hx hb hr (fun t ht hW => ⟨⟨_, rfl, ⟨q5, q5_q7, q16, q16_q8, q16_q16, q27, q27_q7, q27_q20, q38, q38_q12, q38_q20, q38_q28, q38_q36, q38_q44, q38_q57, q38_q65, q38_q73, q38_q81, q38_q89, q38_q97, q38_q110, q38_q123, rfl⟩, by rw [ht]; exact hP, hD⟩, hS.F ht⟩) hS.2.2 dX4_init_48
set_option maxHeartbeats 4000000 in
set_option maxRecDepth 100000 in
theorem c_X5_init (l : Launch) (D : va_G) {h0 sz : Nat} {cI cZ : ClassId} : Met l yX5_init wsX5_init ({ frames := 1, cells := 7, slots := 507, locals := 12 } : Room) (va_Pc [.ref h0] (wn_B D sz [(h0, .inr (5, [.int 0, .null, .null, .int 0, .null, .int 0, .null, .null, .null, .int 0, .int 0, .int 0, .int 0, .null, .int 0, .long 0]))] [(cI, .int), (cZ, .boolean)])) (va_Qv (fun w1 : va_W => ∃ q7 q16 q24 q32 q40 q48 q56 : Nat, w1 = [(h0, .inr (5, [.int 0, .ref q7, .ref q16, .int 0, .ref q24, .int 0, .ref q32, .ref q40, .ref q48, .int 0, .int 0, .int 0, .int 0, .ref q56, .int 0, .long 0])), (q7, .inl (cI, 49, .inl (fun _ => 0))), (q16, .inl (cI, 294, .inl (fun _ => 0))), (q24, .inl (cI, 60, .inl (fun _ => 0))), (q32, .inl (cI, 8, .inl (fun _ => 0))), (q40, .inl (cI, 8, .inl (fun _ => 0))), (q48, .inl (cI, 8, .inl (fun _ => 0))), (q56, .inl (cI, 80, .inl (fun _ => 0)))]) (fun w1 t => va_P D vwCl w1 t.heap ∧ va_D (va_A [(h0, .inr (5, [.int 0, .null, .null, .int 0, .null, .int 0, .null, .null, .null, .int 0, .int 0, .int 0, .int 0, .null, .int 0, .long 0]))] sz) w1) (va_A [(h0, .inr (5, [.int 0, .null, .null, .int 0, .null, .int 0, .null, .null, .null, .int 0, .int 0, .int 0, .int 0, .null, .int 0, .long 0]))] sz)) 7 507 (va_A [(h0, .inr (5, [.int 0, .null, .null, .int 0, .null, .int 0, .null, .null, .null, .int 0, .int 0, .int 0, .int 0, .null, .int 0, .long 0]))] sz) := by
  refine Met.ofW (cc := cX5_init) (maxL := 1) (ret := none) (by decide) rfl ?_
  intro p e s m args below meth c s₁ B hml hv
  obtain ⟨rfl, hsz, hP, hK, hN, hD0⟩ := hv
  have hx := B.exec
  have hb := B.bytes
  have hr := B.returns
  have hts := atoms_spec (ws := wsX5_init) B.pre
  have hown : s.vm.findClass RX5 = some m.cls := findClass_of_methodNamed B.named
  have hlocks := B.notSynchronized
  have hin : meth.name = "<init>" := (name_of_methodNamed B.named B.method).1
  subst hsz
  have hD := hD0.self (sz := s.heap.size)
  generalize hAe : va_A [(h0, .inr (5, [.int 0, .null, .null, .int 0, .null, .int 0, .null, .null, .null, .int 0, .int 0, .int 0, .int 0, .null, .int 0, .long 0]))] s.heap.size = A at hD ⊢
  have hA : ∀ q : Nat, s.heap.size ≤ q → A q := fun q h => by rw [← hAe]; exact Or.inr h
  have hS : va_S A s.heap s.heap [] := va_S.rf
  have hP : va_P D vwCl [(h0, .inr (5, [.int 0, .null, .null, .int 0, .null, .int 0, .null, .null, .null, .int 0, .int 0, .int 0, .int 0, .null, .int 0, .long 0]))] s.heap := hP
  have hl := lv_entry ([.ref h0]) (n := 1) (Nat.le_of_ble_eq_true rfl)
  rw [lg_entry_eq]
  generalize (lg_sl ([.ref h0]) ++ List.replicate (1 - (lg_sl ([.ref h0])).length) Slot.unset).toArray = ls at hl ⊢
  have hl : lv_has ls 1 [(0, .ref h0)] := hl
  refine lv_aload_n hx hb dX5_init_0 rfl (lv_at hl 0 rfl) ?_
  refine W.objInit hx hb hown (hts (.methodLink RX5 1 objectInit) (by decide +kernel)) (hts (.instanceMethod objectInit) (by decide +kernel)) (hts (.code objectInit ⟨#[0xb1]⟩ 1 none) (by decide +kernel)) rfl (by rw [hml]; exact hl.1) rfl dX5_init_1 (Nat.le_of_ble_eq_true rfl) (Nat.le_of_ble_eq_true rfl) ?_
  refine W.eq (g2 := F0 m 4 ls []) rfl ?_
  have hinw : ∀ w ∈ u_ws RX5 TX5 16, w ∈ wsX5_init := by decide +kernel
  refine lv_aload_n hx hb dX5_init_4 rfl (lv_at hl 0 rfl) ?_
  refine lv_bipush (v := 49) hx hb dX5_init_5 (by decide) ?_
  refine va_newa (atype := .int) (ty := .int) (N' := 49) (a0 := (49, .inl (fun _ => 0))) hx hb (hts (.arrayClass .int) (by decide +kernel)) rfl hK hP hD hS hA (fun _ => rfl) (by decide) (by decide) (by show 49 * _ ≤ 536870912; exact Nat.le_of_ble_eq_true rfl) (Nat.le_of_ble_eq_true rfl) (Nat.le_of_ble_eq_true rfl) dX5_init_7 (fun q7 cA9 H hK9 hP hD hS => ?_)
  have ec9 : cA9 = cI := K_uni hK9 (k := 0) rfl (fun C h => by cases h)
  rw [ec9] at hP hD
  have hP : va_P D vwCl [(h0, .inr (5, [.int 0, .null, .null, .int 0, .null, .int 0, .null, .null, .null, .int 0, .int 0, .int 0, .int 0, .null, .int 0, .long 0])), (q7, .inl (cI, 49, .inl (fun _ => 0)))] H := hP
  have hD : va_D A [(h0, .inr (5, [.int 0, .null, .null, .int 0, .null, .int 0, .null, .null, .null, .int 0, .int 0, .int 0, .int 0, .null, .int 0, .long 0])), (q7, .inl (cI, 49, .inl (fun _ => 0)))] := hD
  refine W.widen (k := 1) (n := 49) (by omega) (by omega) ?_
  refine va_putF (D := D) (ci := 5) (v := .ref q7) (ty := (.array .int)) (C := RX5) (T := TX5) (N := 16) hx hb hts hinw tyX5 tyX5_ok nmX5 hown hK hP hD hS 0 rfl rfl 1 (by decide) (hts (.fieldLink RX5 7 "CornerLabelsModel" "s" "[I") (by decide +kernel)) (fun _ h9 => h9) rfl hin rfl (by decide +kernel) rfl rfl (Nat.le_of_ble_eq_true rfl) dX5_init_9 (fun H locs hP hD hS => ?_)
  have hP : va_P D vwCl [(h0, .inr (5, [.int 0, .ref q7, .null, .int 0, .null, .int 0, .null, .null, .null, .int 0, .int 0, .int 0, .int 0, .null, .int 0, .long 0])), (q7, .inl (cI, 49, .inl (fun _ => 0)))] H := hP
  have hD : va_D A [(h0, .inr (5, [.int 0, .ref q7, .null, .int 0, .null, .int 0, .null, .null, .null, .int 0, .int 0, .int 0, .int 0, .null, .int 0, .long 0])), (q7, .inl (cI, 49, .inl (fun _ => 0)))] := hD
  refine lv_aload_n hx hb dX5_init_12 rfl (lv_at hl 0 rfl) ?_
  refine lv_sipush (v := 294) hx hb dX5_init_13 (by decide) ?_
  refine va_newa (atype := .int) (ty := .int) (N' := 294) (a0 := (294, .inl (fun _ => 0))) hx hb (hts (.arrayClass .int) (by decide +kernel)) rfl hK hP hD hS hA (fun _ => rfl) (by decide) (by decide) (by show 294 * _ ≤ 536870912; exact Nat.le_of_ble_eq_true rfl) (Nat.le_of_ble_eq_true rfl) (Nat.le_of_ble_eq_true rfl) dX5_init_16 (fun q16 cA9 H hK9 hP hD hS => ?_)
  have ec9 : cA9 = cI := K_uni hK9 (k := 0) rfl (fun C h => by cases h)
  rw [ec9] at hP hD
  have hP : va_P D vwCl [(h0, .inr (5, [.int 0, .ref q7, .null, .int 0, .null, .int 0, .null, .null, .null, .int 0, .int 0, .int 0, .int 0, .null, .int 0, .long 0])), (q7, .inl (cI, 49, .inl (fun _ => 0))), (q16, .inl (cI, 294, .inl (fun _ => 0)))] H := hP
  have hD : va_D A [(h0, .inr (5, [.int 0, .ref q7, .null, .int 0, .null, .int 0, .null, .null, .null, .int 0, .int 0, .int 0, .int 0, .null, .int 0, .long 0])), (q7, .inl (cI, 49, .inl (fun _ => 0))), (q16, .inl (cI, 294, .inl (fun _ => 0)))] := hD
  refine W.widen (k := 2) (n := 343) (by omega) (by omega) ?_
  refine va_putF (D := D) (ci := 5) (v := .ref q16) (ty := (.array .int)) (C := RX5) (T := TX5) (N := 16) hx hb hts hinw tyX5 tyX5_ok nmX5 hown hK hP hD hS 0 rfl rfl 2 (by decide) (hts (.fieldLink RX5 13 "CornerLabelsModel" "saved" "[I") (by decide +kernel)) (fun _ h9 => h9) rfl hin rfl (by decide +kernel) rfl rfl (Nat.le_of_ble_eq_true rfl) dX5_init_18 (fun H locs hP hD hS => ?_)
  have hP : va_P D vwCl [(h0, .inr (5, [.int 0, .ref q7, .ref q16, .int 0, .null, .int 0, .null, .null, .null, .int 0, .int 0, .int 0, .int 0, .null, .int 0, .long 0])), (q7, .inl (cI, 49, .inl (fun _ => 0))), (q16, .inl (cI, 294, .inl (fun _ => 0)))] H := hP
  have hD : va_D A [(h0, .inr (5, [.int 0, .ref q7, .ref q16, .int 0, .null, .int 0, .null, .null, .null, .int 0, .int 0, .int 0, .int 0, .null, .int 0, .long 0])), (q7, .inl (cI, 49, .inl (fun _ => 0))), (q16, .inl (cI, 294, .inl (fun _ => 0)))] := hD
  refine lv_aload_n hx hb dX5_init_21 rfl (lv_at hl 0 rfl) ?_
  refine lv_bipush (v := 60) hx hb dX5_init_22 (by decide) ?_
  refine va_newa (atype := .int) (ty := .int) (N' := 60) (a0 := (60, .inl (fun _ => 0))) hx hb (hts (.arrayClass .int) (by decide +kernel)) rfl hK hP hD hS hA (fun _ => rfl) (by decide) (by decide) (by show 60 * _ ≤ 536870912; exact Nat.le_of_ble_eq_true rfl) (Nat.le_of_ble_eq_true rfl) (Nat.le_of_ble_eq_true rfl) dX5_init_24 (fun q24 cA9 H hK9 hP hD hS => ?_)
  have ec9 : cA9 = cI := K_uni hK9 (k := 0) rfl (fun C h => by cases h)
  rw [ec9] at hP hD
  have hP : va_P D vwCl [(h0, .inr (5, [.int 0, .ref q7, .ref q16, .int 0, .null, .int 0, .null, .null, .null, .int 0, .int 0, .int 0, .int 0, .null, .int 0, .long 0])), (q7, .inl (cI, 49, .inl (fun _ => 0))), (q16, .inl (cI, 294, .inl (fun _ => 0))), (q24, .inl (cI, 60, .inl (fun _ => 0)))] H := hP
  have hD : va_D A [(h0, .inr (5, [.int 0, .ref q7, .ref q16, .int 0, .null, .int 0, .null, .null, .null, .int 0, .int 0, .int 0, .int 0, .null, .int 0, .long 0])), (q7, .inl (cI, 49, .inl (fun _ => 0))), (q16, .inl (cI, 294, .inl (fun _ => 0))), (q24, .inl (cI, 60, .inl (fun _ => 0)))] := hD
  refine W.widen (k := 3) (n := 403) (by omega) (by omega) ?_
  refine va_putF (D := D) (ci := 5) (v := .ref q24) (ty := (.array .int)) (C := RX5) (T := TX5) (N := 16) hx hb hts hinw tyX5 tyX5_ok nmX5 hown hK hP hD hS 0 rfl rfl 4 (by decide) (hts (.fieldLink RX5 16 "CornerLabelsModel" "buffer" "[I") (by decide +kernel)) (fun _ h9 => h9) rfl hin rfl (by decide +kernel) rfl rfl (Nat.le_of_ble_eq_true rfl) dX5_init_26 (fun H locs hP hD hS => ?_)
  have hP : va_P D vwCl [(h0, .inr (5, [.int 0, .ref q7, .ref q16, .int 0, .ref q24, .int 0, .null, .null, .null, .int 0, .int 0, .int 0, .int 0, .null, .int 0, .long 0])), (q7, .inl (cI, 49, .inl (fun _ => 0))), (q16, .inl (cI, 294, .inl (fun _ => 0))), (q24, .inl (cI, 60, .inl (fun _ => 0)))] H := hP
  have hD : va_D A [(h0, .inr (5, [.int 0, .ref q7, .ref q16, .int 0, .ref q24, .int 0, .null, .null, .null, .int 0, .int 0, .int 0, .int 0, .null, .int 0, .long 0])), (q7, .inl (cI, 49, .inl (fun _ => 0))), (q16, .inl (cI, 294, .inl (fun _ => 0))), (q24, .inl (cI, 60, .inl (fun _ => 0)))] := hD
  refine lv_aload_n hx hb dX5_init_29 rfl (lv_at hl 0 rfl) ?_
  refine lv_bipush (v := 8) hx hb dX5_init_30 (by decide) ?_
  refine va_newa (atype := .int) (ty := .int) (N' := 8) (a0 := (8, .inl (fun _ => 0))) hx hb (hts (.arrayClass .int) (by decide +kernel)) rfl hK hP hD hS hA (fun _ => rfl) (by decide) (by decide) (by show 8 * _ ≤ 536870912; exact Nat.le_of_ble_eq_true rfl) (Nat.le_of_ble_eq_true rfl) (Nat.le_of_ble_eq_true rfl) dX5_init_32 (fun q32 cA9 H hK9 hP hD hS => ?_)
  have ec9 : cA9 = cI := K_uni hK9 (k := 0) rfl (fun C h => by cases h)
  rw [ec9] at hP hD
  have hP : va_P D vwCl [(h0, .inr (5, [.int 0, .ref q7, .ref q16, .int 0, .ref q24, .int 0, .null, .null, .null, .int 0, .int 0, .int 0, .int 0, .null, .int 0, .long 0])), (q7, .inl (cI, 49, .inl (fun _ => 0))), (q16, .inl (cI, 294, .inl (fun _ => 0))), (q24, .inl (cI, 60, .inl (fun _ => 0))), (q32, .inl (cI, 8, .inl (fun _ => 0)))] H := hP
  have hD : va_D A [(h0, .inr (5, [.int 0, .ref q7, .ref q16, .int 0, .ref q24, .int 0, .null, .null, .null, .int 0, .int 0, .int 0, .int 0, .null, .int 0, .long 0])), (q7, .inl (cI, 49, .inl (fun _ => 0))), (q16, .inl (cI, 294, .inl (fun _ => 0))), (q24, .inl (cI, 60, .inl (fun _ => 0))), (q32, .inl (cI, 8, .inl (fun _ => 0)))] := hD
  refine W.widen (k := 4) (n := 411) (by omega) (by omega) ?_
  refine va_putF (D := D) (ci := 5) (v := .ref q32) (ty := (.array .int)) (C := RX5) (T := TX5) (N := 16) hx hb hts hinw tyX5 tyX5_ok nmX5 hown hK hP hD hS 0 rfl rfl 6 (by decide) (hts (.fieldLink RX5 19 "CornerLabelsModel" "told" "[I") (by decide +kernel)) (fun _ h9 => h9) rfl hin rfl (by decide +kernel) rfl rfl (Nat.le_of_ble_eq_true rfl) dX5_init_34 (fun H locs hP hD hS => ?_)
  have hP : va_P D vwCl [(h0, .inr (5, [.int 0, .ref q7, .ref q16, .int 0, .ref q24, .int 0, .ref q32, .null, .null, .int 0, .int 0, .int 0, .int 0, .null, .int 0, .long 0])), (q7, .inl (cI, 49, .inl (fun _ => 0))), (q16, .inl (cI, 294, .inl (fun _ => 0))), (q24, .inl (cI, 60, .inl (fun _ => 0))), (q32, .inl (cI, 8, .inl (fun _ => 0)))] H := hP
  have hD : va_D A [(h0, .inr (5, [.int 0, .ref q7, .ref q16, .int 0, .ref q24, .int 0, .ref q32, .null, .null, .int 0, .int 0, .int 0, .int 0, .null, .int 0, .long 0])), (q7, .inl (cI, 49, .inl (fun _ => 0))), (q16, .inl (cI, 294, .inl (fun _ => 0))), (q24, .inl (cI, 60, .inl (fun _ => 0))), (q32, .inl (cI, 8, .inl (fun _ => 0)))] := hD
  refine lv_aload_n hx hb dX5_init_37 rfl (lv_at hl 0 rfl) ?_
  refine lv_bipush (v := 8) hx hb dX5_init_38 (by decide) ?_
  refine va_newa (atype := .int) (ty := .int) (N' := 8) (a0 := (8, .inl (fun _ => 0))) hx hb (hts (.arrayClass .int) (by decide +kernel)) rfl hK hP hD hS hA (fun _ => rfl) (by decide) (by decide) (by show 8 * _ ≤ 536870912; exact Nat.le_of_ble_eq_true rfl) (Nat.le_of_ble_eq_true rfl) (Nat.le_of_ble_eq_true rfl) dX5_init_40 (fun q40 cA9 H hK9 hP hD hS => ?_)
  have ec9 : cA9 = cI := K_uni hK9 (k := 0) rfl (fun C h => by cases h)
  rw [ec9] at hP hD
  have hP : va_P D vwCl [(h0, .inr (5, [.int 0, .ref q7, .ref q16, .int 0, .ref q24, .int 0, .ref q32, .null, .null, .int 0, .int 0, .int 0, .int 0, .null, .int 0, .long 0])), (q7, .inl (cI, 49, .inl (fun _ => 0))), (q16, .inl (cI, 294, .inl (fun _ => 0))), (q24, .inl (cI, 60, .inl (fun _ => 0))), (q32, .inl (cI, 8, .inl (fun _ => 0))), (q40, .inl (cI, 8, .inl (fun _ => 0)))] H := hP
  have hD : va_D A [(h0, .inr (5, [.int 0, .ref q7, .ref q16, .int 0, .ref q24, .int 0, .ref q32, .null, .null, .int 0, .int 0, .int 0, .int 0, .null, .int 0, .long 0])), (q7, .inl (cI, 49, .inl (fun _ => 0))), (q16, .inl (cI, 294, .inl (fun _ => 0))), (q24, .inl (cI, 60, .inl (fun _ => 0))), (q32, .inl (cI, 8, .inl (fun _ => 0))), (q40, .inl (cI, 8, .inl (fun _ => 0)))] := hD
  refine W.widen (k := 5) (n := 419) (by omega) (by omega) ?_
  refine va_putF (D := D) (ci := 5) (v := .ref q40) (ty := (.array .int)) (C := RX5) (T := TX5) (N := 16) hx hb hts hinw tyX5 tyX5_ok nmX5 hown hK hP hD hS 0 rfl rfl 7 (by decide) (hts (.fieldLink RX5 22 "CornerLabelsModel" "allowed" "[I") (by decide +kernel)) (fun _ h9 => h9) rfl hin rfl (by decide +kernel) rfl rfl (Nat.le_of_ble_eq_true rfl) dX5_init_42 (fun H locs hP hD hS => ?_)
  have hP : va_P D vwCl [(h0, .inr (5, [.int 0, .ref q7, .ref q16, .int 0, .ref q24, .int 0, .ref q32, .ref q40, .null, .int 0, .int 0, .int 0, .int 0, .null, .int 0, .long 0])), (q7, .inl (cI, 49, .inl (fun _ => 0))), (q16, .inl (cI, 294, .inl (fun _ => 0))), (q24, .inl (cI, 60, .inl (fun _ => 0))), (q32, .inl (cI, 8, .inl (fun _ => 0))), (q40, .inl (cI, 8, .inl (fun _ => 0)))] H := hP
  have hD : va_D A [(h0, .inr (5, [.int 0, .ref q7, .ref q16, .int 0, .ref q24, .int 0, .ref q32, .ref q40, .null, .int 0, .int 0, .int 0, .int 0, .null, .int 0, .long 0])), (q7, .inl (cI, 49, .inl (fun _ => 0))), (q16, .inl (cI, 294, .inl (fun _ => 0))), (q24, .inl (cI, 60, .inl (fun _ => 0))), (q32, .inl (cI, 8, .inl (fun _ => 0))), (q40, .inl (cI, 8, .inl (fun _ => 0)))] := hD
  refine lv_aload_n hx hb dX5_init_45 rfl (lv_at hl 0 rfl) ?_
  refine lv_bipush (v := 8) hx hb dX5_init_46 (by decide) ?_
  refine va_newa (atype := .int) (ty := .int) (N' := 8) (a0 := (8, .inl (fun _ => 0))) hx hb (hts (.arrayClass .int) (by decide +kernel)) rfl hK hP hD hS hA (fun _ => rfl) (by decide) (by decide) (by show 8 * _ ≤ 536870912; exact Nat.le_of_ble_eq_true rfl) (Nat.le_of_ble_eq_true rfl) (Nat.le_of_ble_eq_true rfl) dX5_init_48 (fun q48 cA9 H hK9 hP hD hS => ?_)
  have ec9 : cA9 = cI := K_uni hK9 (k := 0) rfl (fun C h => by cases h)
  rw [ec9] at hP hD
  have hP : va_P D vwCl [(h0, .inr (5, [.int 0, .ref q7, .ref q16, .int 0, .ref q24, .int 0, .ref q32, .ref q40, .null, .int 0, .int 0, .int 0, .int 0, .null, .int 0, .long 0])), (q7, .inl (cI, 49, .inl (fun _ => 0))), (q16, .inl (cI, 294, .inl (fun _ => 0))), (q24, .inl (cI, 60, .inl (fun _ => 0))), (q32, .inl (cI, 8, .inl (fun _ => 0))), (q40, .inl (cI, 8, .inl (fun _ => 0))), (q48, .inl (cI, 8, .inl (fun _ => 0)))] H := hP
  have hD : va_D A [(h0, .inr (5, [.int 0, .ref q7, .ref q16, .int 0, .ref q24, .int 0, .ref q32, .ref q40, .null, .int 0, .int 0, .int 0, .int 0, .null, .int 0, .long 0])), (q7, .inl (cI, 49, .inl (fun _ => 0))), (q16, .inl (cI, 294, .inl (fun _ => 0))), (q24, .inl (cI, 60, .inl (fun _ => 0))), (q32, .inl (cI, 8, .inl (fun _ => 0))), (q40, .inl (cI, 8, .inl (fun _ => 0))), (q48, .inl (cI, 8, .inl (fun _ => 0)))] := hD
  refine W.widen (k := 6) (n := 427) (by omega) (by omega) ?_
  refine va_putF (D := D) (ci := 5) (v := .ref q48) (ty := (.array .int)) (C := RX5) (T := TX5) (N := 16) hx hb hts hinw tyX5 tyX5_ok nmX5 hown hK hP hD hS 0 rfl rfl 8 (by decide) (hts (.fieldLink RX5 25 "CornerLabelsModel" "plan" "[I") (by decide +kernel)) (fun _ h9 => h9) rfl hin rfl (by decide +kernel) rfl rfl (Nat.le_of_ble_eq_true rfl) dX5_init_50 (fun H locs hP hD hS => ?_)
  have hP : va_P D vwCl [(h0, .inr (5, [.int 0, .ref q7, .ref q16, .int 0, .ref q24, .int 0, .ref q32, .ref q40, .ref q48, .int 0, .int 0, .int 0, .int 0, .null, .int 0, .long 0])), (q7, .inl (cI, 49, .inl (fun _ => 0))), (q16, .inl (cI, 294, .inl (fun _ => 0))), (q24, .inl (cI, 60, .inl (fun _ => 0))), (q32, .inl (cI, 8, .inl (fun _ => 0))), (q40, .inl (cI, 8, .inl (fun _ => 0))), (q48, .inl (cI, 8, .inl (fun _ => 0)))] H := hP
  have hD : va_D A [(h0, .inr (5, [.int 0, .ref q7, .ref q16, .int 0, .ref q24, .int 0, .ref q32, .ref q40, .ref q48, .int 0, .int 0, .int 0, .int 0, .null, .int 0, .long 0])), (q7, .inl (cI, 49, .inl (fun _ => 0))), (q16, .inl (cI, 294, .inl (fun _ => 0))), (q24, .inl (cI, 60, .inl (fun _ => 0))), (q32, .inl (cI, 8, .inl (fun _ => 0))), (q40, .inl (cI, 8, .inl (fun _ => 0))), (q48, .inl (cI, 8, .inl (fun _ => 0)))] := hD
  refine lv_aload_n hx hb dX5_init_53 rfl (lv_at hl 0 rfl) ?_
  refine lv_bipush (v := 80) hx hb dX5_init_54 (by decide) ?_
  refine va_newa (atype := .int) (ty := .int) (N' := 80) (a0 := (80, .inl (fun _ => 0))) hx hb (hts (.arrayClass .int) (by decide +kernel)) rfl hK hP hD hS hA (fun _ => rfl) (by decide) (by decide) (by show 80 * _ ≤ 536870912; exact Nat.le_of_ble_eq_true rfl) (Nat.le_of_ble_eq_true rfl) (Nat.le_of_ble_eq_true rfl) dX5_init_56 (fun q56 cA9 H hK9 hP hD hS => ?_)
  have ec9 : cA9 = cI := K_uni hK9 (k := 0) rfl (fun C h => by cases h)
  rw [ec9] at hP hD
  have hP : va_P D vwCl [(h0, .inr (5, [.int 0, .ref q7, .ref q16, .int 0, .ref q24, .int 0, .ref q32, .ref q40, .ref q48, .int 0, .int 0, .int 0, .int 0, .null, .int 0, .long 0])), (q7, .inl (cI, 49, .inl (fun _ => 0))), (q16, .inl (cI, 294, .inl (fun _ => 0))), (q24, .inl (cI, 60, .inl (fun _ => 0))), (q32, .inl (cI, 8, .inl (fun _ => 0))), (q40, .inl (cI, 8, .inl (fun _ => 0))), (q48, .inl (cI, 8, .inl (fun _ => 0))), (q56, .inl (cI, 80, .inl (fun _ => 0)))] H := hP
  have hD : va_D A [(h0, .inr (5, [.int 0, .ref q7, .ref q16, .int 0, .ref q24, .int 0, .ref q32, .ref q40, .ref q48, .int 0, .int 0, .int 0, .int 0, .null, .int 0, .long 0])), (q7, .inl (cI, 49, .inl (fun _ => 0))), (q16, .inl (cI, 294, .inl (fun _ => 0))), (q24, .inl (cI, 60, .inl (fun _ => 0))), (q32, .inl (cI, 8, .inl (fun _ => 0))), (q40, .inl (cI, 8, .inl (fun _ => 0))), (q48, .inl (cI, 8, .inl (fun _ => 0))), (q56, .inl (cI, 80, .inl (fun _ => 0)))] := hD
  refine W.widen (k := 7) (n := 507) (by omega) (by omega) ?_
  refine va_putF (D := D) (ci := 5) (v := .ref q56) (ty := (.array .int)) (C := RX5) (T := TX5) (N := 16) hx hb hts hinw tyX5 tyX5_ok nmX5 hown hK hP hD hS 0 rfl rfl 13 (by decide) (hts (.fieldLink RX5 28 "CornerLabelsModel" "read" "[I") (by decide +kernel)) (fun _ h9 => h9) rfl hin rfl (by decide +kernel) rfl rfl (Nat.le_of_ble_eq_true rfl) dX5_init_58 (fun H locs hP hD hS => ?_)
  have hP : va_P D vwCl [(h0, .inr (5, [.int 0, .ref q7, .ref q16, .int 0, .ref q24, .int 0, .ref q32, .ref q40, .ref q48, .int 0, .int 0, .int 0, .int 0, .ref q56, .int 0, .long 0])), (q7, .inl (cI, 49, .inl (fun _ => 0))), (q16, .inl (cI, 294, .inl (fun _ => 0))), (q24, .inl (cI, 60, .inl (fun _ => 0))), (q32, .inl (cI, 8, .inl (fun _ => 0))), (q40, .inl (cI, 8, .inl (fun _ => 0))), (q48, .inl (cI, 8, .inl (fun _ => 0))), (q56, .inl (cI, 80, .inl (fun _ => 0)))] H := hP
  have hD : va_D A [(h0, .inr (5, [.int 0, .ref q7, .ref q16, .int 0, .ref q24, .int 0, .ref q32, .ref q40, .ref q48, .int 0, .int 0, .int 0, .int 0, .ref q56, .int 0, .long 0])), (q7, .inl (cI, 49, .inl (fun _ => 0))), (q16, .inl (cI, 294, .inl (fun _ => 0))), (q24, .inl (cI, 60, .inl (fun _ => 0))), (q32, .inl (cI, 8, .inl (fun _ => 0))), (q40, .inl (cI, 8, .inl (fun _ => 0))), (q48, .inl (cI, 8, .inl (fun _ => 0))), (q56, .inl (cI, 80, .inl (fun _ => 0)))] := hD
  refine lv_aload_n hx hb dX5_init_61 rfl (lv_at hl 0 rfl) ?_
  refine lv_iconst (v := 0) hx hb dX5_init_62 (by decide) ?_
  refine va_put (D := D) (ci := 5) (v := .int 0) (ty := .int) (C := RX5) (T := TX5) (N := 16) hx hb hts hinw tyX5 tyX5_ok nmX5 hown hK hP hD hS 0 rfl rfl 0 (by decide) (hts (.fieldLink RX5 31 "CornerLabelsModel" "thrown" "I") (by decide +kernel)) (fun _ h9 => h9) rfl (by decide +kernel) rfl rfl (Nat.le_of_ble_eq_true rfl) dX5_init_63 (fun H locs hP hD hS => ?_)
  have hP : va_P D vwCl [(h0, .inr (5, [.int 0, .ref q7, .ref q16, .int 0, .ref q24, .int 0, .ref q32, .ref q40, .ref q48, .int 0, .int 0, .int 0, .int 0, .ref q56, .int 0, .long 0])), (q7, .inl (cI, 49, .inl (fun _ => 0))), (q16, .inl (cI, 294, .inl (fun _ => 0))), (q24, .inl (cI, 60, .inl (fun _ => 0))), (q32, .inl (cI, 8, .inl (fun _ => 0))), (q40, .inl (cI, 8, .inl (fun _ => 0))), (q48, .inl (cI, 8, .inl (fun _ => 0))), (q56, .inl (cI, 80, .inl (fun _ => 0)))] H := hP
  have hD : va_D A [(h0, .inr (5, [.int 0, .ref q7, .ref q16, .int 0, .ref q24, .int 0, .ref q32, .ref q40, .ref q48, .int 0, .int 0, .int 0, .int 0, .ref q56, .int 0, .long 0])), (q7, .inl (cI, 49, .inl (fun _ => 0))), (q16, .inl (cI, 294, .inl (fun _ => 0))), (q24, .inl (cI, 60, .inl (fun _ => 0))), (q32, .inl (cI, 8, .inl (fun _ => 0))), (q40, .inl (cI, 8, .inl (fun _ => 0))), (q48, .inl (cI, 8, .inl (fun _ => 0))), (q56, .inl (cI, 80, .inl (fun _ => 0)))] := hD
  exact W.vret hx hb hr (fun t ht hW => ⟨⟨_, rfl, ⟨q7, q16, q24, q32, q40, q48, q56, rfl⟩, by rw [ht]; exact hP, hD⟩, hS.F ht⟩) hS.2.2 dX5_init_66
