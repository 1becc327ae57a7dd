abbrev vwCl : List vw_C := [(RX0, TX0, 2), (RX1, TX1, 3), (RX2, TX2, 17), (RX3, TX3, 6), (RX4, TX4, 4), (RX5, TX5, 16)]
/-! OUR OWN ROWS OVER THE KIT: reading methods (the heap stays), Nat views of ints, booleans as bI -/
def bI (b : Bool) : Int32 := if b then 1 else 0
theorem bI_t : bI true = 1 := rfl
theorem bI_f : bI false = 0 := rfl
theorem bI_0 (b : Bool) : bI b = 0 ↔ b = false := by cases b <;> decide
theorem bI_n (b : Bool) : narrow .boolean (.int (bI b)) = .int (bI b) := by cases b <;> rfl
theorem bI_fit (b : Bool) : fits .boolean (.int (bI b)) = true := by cases b <;> rfl
/-- the links of nest mates that are used when the program runs -/
def nw_ok (U : State) : Prop := va_Nw (.methodLinkNest RX0 68 yX4_hasBit RX4) U ∧ va_Nw (.methodLinkNest RX2 79 yX4_hasBit RX4) U
theorem nw_ok.same {u U : State} (h : u.vm = U.vm) (hn : nw_ok u) : nw_ok U := ⟨hn.1.same rfl h, hn.2.same rfl h⟩
theorem nw_ok.warm {s U : State} (hW : s.WarmedH U.vm) (hn : nw_ok s) : nw_ok U := ⟨hn.1.warmM hW, hn.2.warmM hW⟩
def rd_B (D : va_G) (cl : List vw_C) (w : va_W) (tys : List (ClassId × FieldType)) : State → Prop := fun U => va_P D cl w U.heap ∧ va_K D cl tys U ∧ nw_ok U
theorem rd_blind {av : List Value} {D : va_G} {cl : List vw_C} {w : va_W} {tys : List (ClassId × FieldType)} : FrameBlind (va_Pc av (rd_B D cl w tys)) := by
  intro a U g mk q
  obtain ⟨q0, qP, qK, qN⟩ := q
  exact ⟨q0, qP, va_K.moved (u := U) (U := U.calling g mk a) (Vm.Alike.refl U.vm) qK, nw_ok.same (u := U) rfl qN⟩
/-- a method that reads: it answers r, and the heap stays -/
def rd_M (l : Launch) (y : MethodName) (ws : List Cond) (rm : Room) (D : va_G) (w : va_W) (tys : List (ClassId × FieldType)) (av : List Value) (r : Int32) : Prop :=
  Met l y ws rm (va_Pc av (rd_B D vwCl w tys)) (QcRead r) 0 0 (fun _ => False)
abbrev rd_W (p : Program) (l : Launch) (e : Env) (ws : List Cond) (rm : Room) (s : State) (m : MethodId) (av : List Value) (below : List Frame) (meth : Method) (c : Code) (r : Int32) (g : JFrame) : Prop :=
  W p l e (headSpec ws rm).room s m av.toArray below meth c s.heap [] 0 0 (MQ below (QcRead r) av.toArray s 0 0 (fun _ => False)) g
set_option maxHeartbeats 1000000 in
theorem rd_of {l : Launch} {y : MethodName} {ws ws' : List Cond} {rm : Room} {D : va_G} {w : va_W} {tys : List (ClassId × FieldType)} {av : List Value} {r : Int32} {cc : ByteArray} {maxL : Nat} {ret : Option FieldType}
    (hy : plainName y.cls = true) (hw : ws = Cond.code y cc maxL ret :: ws') (hlen : (lg_sl av).length ≤ maxL)
    (body : ∀ (p : Program) (e : Env) (s : State) (m : MethodId) (below : List Frame) (meth : Method) (c : Code), p.tables.exec = Jvm.exec → c.code = cc → meth.sig.returnType = ret → c.maxLocals = maxL → (∀ w ∈ ws, w.before av.toArray s = true) → s.vm.findClass y.cls = some m.cls → meth.locks = false → va_P D vwCl w s.heap → va_K D vwCl tys s → nw_ok s →
      ∀ ls : Array Slot, lv_has ls maxL (lv_args 0 av) → rd_W p l e ws rm s m av below meth c r (F0 m 0 ls [])) : rd_M l y ws rm D w tys av r := by
  refine Met.ofW (cc := cc) (maxL := maxL) (ret := ret) hy hw ?_
  intro p e s m args below meth c s₁ B hml hv
  obtain ⟨rfl, hP, hK, hN⟩ := hv
  have hown : s.vm.findClass y.cls = some m.cls := findClass_of_methodNamed B.named
  have hl := lv_entry av (n := maxL) hlen
  rw [lg_entry_eq]
  exact body p e s m below meth c B.exec B.bytes B.returns hml (atoms_spec (ws := ws) B.pre) hown B.notSynchronized hP hK hN _ hl
section RD
variable {p : Program} {l : Launch} {e : Env} {R : Room} {s : State} {m : MethodId} {args : Array Value} {below : List Frame} {meth : Method} {c : Code} {H : Heap} {locs : List Loc} {cells slots : Nat} {Q : State → Prop}
variable {cc : ByteArray} {pc : Nat} {ls : Array Slot} {rest st0 : List Value} {D : va_G} {w : va_W} {tys : List (ClassId × FieldType)}
/-- the top of the stack under another name -/
theorem lv_asi {x y : Int32} (h : x = y) (k : W p l e R s m args below meth c H locs cells slots Q (F0 m pc ls (.int y :: rest))) : W p l e R s m args below meth c H locs cells slots Q (F0 m pc ls (.int x :: rest)) := by
  rw [h]; exact k
/-- an int array's element, by a number -/
theorem rd_ald {a : Nat} {cA : ClassId} {N : Nat} {f : Nat → Int32} {i : Int32} {j : Nat} {v : Int32} {q0 t0 : Nat} (hexec : p.tables.exec = Jvm.exec) (hb : c.code = cc) (hK : va_K D vwCl tys s) (hP : va_P D vwCl w H) (ha : w[q0]? = some (a, .inl (cA, N, .inl f))) (ht : tys[t0]? = some (cA, .int)) (hi : i = nI j) (hj : j < N) (hN : N < 2 ^ 31) (hv : f j = v) (hdg : decode cc pc = .ok (.iaload, 1))
    (kk : W p l e R s m args below meth c H locs cells slots Q (F0 m (pc + 1) ls (.int v :: rest))) : W p l e R s m args below meth c H locs cells slots Q (F0 m pc ls (.int i :: .ref a :: rest)) := by
  refine va_iald hexec hb hK hP q0 t0 ha ht (by rw [hi]; exact vp_in_nI hj hN) hdg ?_
  rw [hi, nI_clamp (by omega), hv]
  exact kk
theorem rd_zald {a : Nat} {cA : ClassId} {N : Nat} {f : Nat → Int32} {i : Int32} {j : Nat} {v : Int32} {q0 t0 : Nat} (hexec : p.tables.exec = Jvm.exec) (hb : c.code = cc) (hK : va_K D vwCl tys s) (hP : va_P D vwCl w H) (ha : w[q0]? = some (a, .inl (cA, N, .inl f))) (ht : tys[t0]? = some (cA, .boolean)) (hi : i = nI j) (hj : j < N) (hN : N < 2 ^ 31) (hv : f j = v) (hdg : decode cc pc = .ok (.baload, 1))
    (kk : W p l e R s m args below meth c H locs cells slots Q (F0 m (pc + 1) ls (.int v :: rest))) : W p l e R s m args below meth c H locs cells slots Q (F0 m pc ls (.int i :: .ref a :: rest)) := by
  refine va_zald hexec hb hK hP q0 t0 ha ht (by rw [hi]; exact vp_in_nI hj hN) hdg ?_
  rw [hi, nI_clamp (by omega), hv]
  exact kk
/-- branches over booleans -/
theorem rd_ifeq_b {b : Bool} {off : Int} {tgt : Nat} (hexec : p.tables.exec = Jvm.exec) (hb : c.code = cc) (hdg : decode cc pc = .ok (.ifCond .eq off, 3)) (ht : (pc : Int) + off = (tgt : Int))
    (kt : b = false → W p l e R s m args below meth c H locs cells slots Q (F0 m tgt ls rest)) (kf : b = true → W p l e R s m args below meth c H locs cells slots Q (F0 m (pc + 3) ls rest)) : W p l e R s m args below meth c H locs cells slots Q (F0 m pc ls (.int (bI b) :: rest)) :=
  lv_if_eq hexec hb hdg ht (fun h => kt ((bI_0 b).mp h)) (fun h => kf (by cases b <;> simp_all [bI_0]))
theorem rd_ifne_b {b : Bool} {off : Int} {tgt : Nat} (hexec : p.tables.exec = Jvm.exec) (hb : c.code = cc) (hdg : decode cc pc = .ok (.ifCond .ne off, 3)) (ht : (pc : Int) + off = (tgt : Int))
    (kt : b = true → W p l e R s m args below meth c H locs cells slots Q (F0 m tgt ls rest)) (kf : b = false → W p l e R s m args below meth c H locs cells slots Q (F0 m (pc + 3) ls rest)) : W p l e R s m args below meth c H locs cells slots Q (F0 m pc ls (.int (bI b) :: rest)) :=
  lv_if_ne hexec hb hdg ht (fun h => kt (by cases b <;> simp_all [bI_0])) (fun h => kf (by cases b <;> simp_all [bI_t]))
/-- branches over numbers -/
theorem rd_icmp_ge_n {a b : Nat} {off : Int} {tgt : Nat} (ha : a < 2 ^ 31) (hb2 : b < 2 ^ 31) (hexec : p.tables.exec = Jvm.exec) (hb : c.code = cc) (hdg : decode cc pc = .ok (.if_icmp .ge off, 3)) (ht : (pc : Int) + off = (tgt : Int))
    (kt : b ≤ a → W p l e R s m args below meth c H locs cells slots Q (F0 m tgt ls rest)) (kf : a < b → W p l e R s m args below meth c H locs cells slots Q (F0 m (pc + 3) ls rest)) : W p l e R s m args below meth c H locs cells slots Q (F0 m pc ls (.int (nI b) :: .int (nI a) :: rest)) :=
  lv_icmp_ge hexec hb hdg ht (fun h => kt ((nI_leI hb2 ha).mp h)) (fun h => kf (Nat.lt_of_not_le (fun q => h ((nI_leI hb2 ha).mpr q))))
theorem rd_icmp_eq_n {a b : Nat} {off : Int} {tgt : Nat} (ha : a < 2 ^ 31) (hb2 : b < 2 ^ 31) (hexec : p.tables.exec = Jvm.exec) (hb : c.code = cc) (hdg : decode cc pc = .ok (.if_icmp .eq off, 3)) (ht : (pc : Int) + off = (tgt : Int))
    (kt : a = b → W p l e R s m args below meth c H locs cells slots Q (F0 m tgt ls rest)) (kf : ¬ a = b → W p l e R s m args below meth c H locs cells slots Q (F0 m (pc + 3) ls rest)) : W p l e R s m args below meth c H locs cells slots Q (F0 m pc ls (.int (nI b) :: .int (nI a) :: rest)) :=
  lv_icmp_eq hexec hb hdg ht (fun h => kt ((nI_eq ha hb2).mp h)) (fun h => kf (fun q => h ((nI_eq ha hb2).mpr q)))
theorem rd_icmp_ne_n {a b : Nat} {off : Int} {tgt : Nat} (ha : a < 2 ^ 31) (hb2 : b < 2 ^ 31) (hexec : p.tables.exec = Jvm.exec) (hb : c.code = cc) (hdg : decode cc pc = .ok (.if_icmp .ne off, 3)) (ht : (pc : Int) + off = (tgt : Int))
    (kt : ¬ a = b → W p l e R s m args below meth c H locs cells slots Q (F0 m tgt ls rest)) (kf : a = b → W p l e R s m args below meth c H locs cells slots Q (F0 m (pc + 3) ls rest)) : W p l e R s m args below meth c H locs cells slots Q (F0 m pc ls (.int (nI b) :: .int (nI a) :: rest)) :=
  lv_icmp_ne hexec hb hdg ht (fun h => kt (fun q => h ((nI_eq ha hb2).mpr q))) (fun h => kf ((nI_eq ha hb2).mp h))
variable {y : MethodName} {bytes : ByteArray} {maxL nL n index : Nat} {ret : Option FieldType} {ws : List Cond} {rm : Room} {Ts : List Cond} {own C : String} {b : Addr} {As : List Value}
theorem rd_callV {r : Int32} {q0 ci N : Nat} {fs : List Value} {T : u_T} (S : CallFix p m c cc nL s args Ts own) (hM : rd_M l y ws rm D w tys (.ref b :: As) r) (cw : CallW R s args own C index y bytes maxL ret ws rm 0 0 n) (hK : va_K D vwCl tys s) (hN : nw_ok s) (hP : va_P D vwCl w H)
    (he : w[q0]? = some (b, .inr (ci, fs))) (hc : vwCl[ci]? = some (C, T, N)) (hn : As.length = n) (hsize : ls.size = nL) (hst : st0 = As.reverse ++ .ref b :: rest) (hW : (rest.map fun v => v.category).sum ≤ 8) (hf : cells ≤ R.cells ∧ slots ≤ R.slots) (hdg : decode cc pc = .ok (.invokevirtual index, 3))
    (kk : W p l e R s m args below meth c H locs cells slots Q (F0 m (pc + 3) ls (.int r :: rest))) : W p l e R s m args below meth c H locs cells slots Q (F0 m pc ls st0) := by
  have hrec := va_recv hK hP hc he
  exact W.callR (W.runV (g := F0 m pc ls st0) S hM cw ⟨rd_blind, hrec, fun U hU hW => ⟨rfl, by rw [hU]; exact hP, va_K.moved hW.alike hK, hN.warm hW⟩⟩ rfl hn hsize hst (lv_room (ls := ls) (rest := rest) (pc := pc) (m := m) hW) hdg ⟨by omega, by omega⟩) kk
theorem rd_callS {r : Int32} (S : CallFix p m c cc nL s args Ts own) (hM : rd_M l y ws rm D w tys As r) (cw : CallB R s args own index y bytes maxL ret ws rm 0 0 n ∧ (Cond.static y).before args s = true) (hK : va_K D vwCl tys s) (hN : nw_ok s) (hP : va_P D vwCl w H)
    (hn : As.length = n) (hsize : ls.size = nL) (hst : st0 = As.reverse ++ rest) (hW : (rest.map fun v => v.category).sum ≤ 8) (hf : cells ≤ R.cells ∧ slots ≤ R.slots) (hdg : decode cc pc = .ok (.invokestatic index, 3))
    (kk : W p l e R s m args below meth c H locs cells slots Q (F0 m (pc + 3) ls (.int r :: rest))) : W p l e R s m args below meth c H locs cells slots Q (F0 m pc ls st0) := by
  exact W.callR (W.runS (g := F0 m pc ls st0) S hM cw ⟨rd_blind, fun U hU hW => ⟨rfl, by rw [hU]; exact hP, va_K.moved hW.alike hK, hN.warm hW⟩⟩ rfl hn hsize hst (lv_room (ls := ls) (rest := rest) (pc := pc) (m := m) hW) hdg ⟨by omega, by omega⟩) kk
theorem rd_callSN {host : String} {r : Int32} (S : CallFix p m c cc nL s args Ts own) (hM : rd_M l y ws rm D w tys As r) (cw : va_CN R s args own index y host bytes maxL ret ws rm 0 0 n ∧ (Cond.static y).before args s = true ∧ True) (hK : va_K D vwCl tys s) (hN : nw_ok s) (hP : va_P D vwCl w H)
    (hn : As.length = n) (hsize : ls.size = nL) (hst : st0 = As.reverse ++ rest) (hW : (rest.map fun v => v.category).sum ≤ 8) (hf : cells ≤ R.cells ∧ slots ≤ R.slots) (hdg : decode cc pc = .ok (.invokestatic index, 3))
    (kk : W p l e R s m args below meth c H locs cells slots Q (F0 m (pc + 3) ls (.int r :: rest))) : W p l e R s m args below meth c H locs cells slots Q (F0 m pc ls st0) := by
  have hr := va_runSN (meth := meth) (below := below) (e := e) (mc := 0) (ms := 0) (cells := cells) (slots := slots) (locs := locs) (g := F0 m pc ls st0) S hM cw ⟨rd_blind, fun U hU hW => ⟨rfl, by rw [hU]; exact hP, va_K.moved hW.alike hK, hN.warm hW⟩⟩ rfl hn hsize hst (lv_room (ls := ls) (rest := rest) (pc := pc) (m := m) hW) hdg ⟨by omega, by omega⟩
  intro T hT X
  obtain ⟨v, st₀, t, T', L, h0, X', hL, e1, e2, ⟨hv, hh⟩, st⟩ := hr T hT X
  cases hv
  obtain ⟨t2, a1, b1⟩ := kk T' (by rw [e1, hh, h0]) (Stand.forget X' (fun q h => (hL q h).elim))
  exact ⟨t2, st t2 a1, b1⟩
end RD
section RE
variable {p : Program} {l : Launch} {e : Env} {ws : List Cond} {rm : Room} {s : State} {m : MethodId} {av : List Value} {below : List Frame} {meth : Method} {c : Code} {cc : ByteArray} {pc : Nat} {ls : Array Slot} {r : Int32}
theorem rd_iret {v : Int32} (hexec : p.tables.exec = Jvm.exec) (hb : c.code = cc) (hr : meth.sig.returnType = some .int) (hlocks : meth.locks = false) (hdg : decode cc pc = .ok (.ireturn, 1)) (hv : v = r) : rd_W p l e ws rm s m av below meth c r (F0 m pc ls [.int v]) :=
  W.iret hexec hb hr (fun t ht hW => ⟨by rw [hv], ht⟩) (fun q hq => by cases hq) hdg hlocks
theorem rd_zret {v : Int32} {b : Bool} (hexec : p.tables.exec = Jvm.exec) (hb : c.code = cc) (hr : meth.sig.returnType = some .boolean) (hlocks : meth.locks = false) (hdg : decode cc pc = .ok (.ireturn, 1)) (hv : v = bI b) : rd_W p l e ws rm s m av below meth c (bI b) (F0 m pc ls [.int v]) :=
  W.zret hexec hb hr (by rw [hv]; exact bI_n b) (fun t ht hW => ⟨by rw [hv], ht⟩) (fun q hq => by cases hq) hdg hlocks
end RE
/-! folds from i up to n -/
def gFold (f : Nat → Int32 → Int32) : Nat → Nat → Int32 → Int32
  | 0, _, a => a
  | k + 1, i, a => gFold f k (i + 1) (f i a)
def gF (n : Nat) (f : Nat → Int32 → Int32) (i : Nat) (a : Int32) : Int32 := gFold f (n - i) i a
theorem gF_step {n i : Nat} {f : Nat → Int32 → Int32} {a : Int32} (h : i < n) : gF n f i a = gF n f (i + 1) (f i a) := by
  unfold gF
  rw [show n - i = (n - (i + 1)) + 1 by omega]
  rfl
theorem gF_end {n i : Nat} {f : Nat → Int32 → Int32} {a : Int32} (h : n ≤ i) : gF n f i a = a := by
  unfold gF
  rw [show n - i = 0 by omega]
  rfl
/-- the first i up to n at which b holds gives g i; else z -/
def gFnd (b : Nat → Bool) (g : Nat → Int32) (z : Int32) : Nat → Nat → Int32
  | 0, _ => z
  | k + 1, i => if b i then g i else gFnd b g z k (i + 1)
def gS (n : Nat) (b : Nat → Bool) (g : Nat → Int32) (z : Int32) (i : Nat) : Int32 := gFnd b g z (n - i) i
theorem gS_step {n i : Nat} {b : Nat → Bool} {g : Nat → Int32} {z : Int32} (h : i < n) : gS n b g z i = if b i then g i else gS n b g z (i + 1) := by
  unfold gS
  rw [show n - i = (n - (i + 1)) + 1 by omega]
  rfl
theorem gS_end {n i : Nat} {b : Nat → Bool} {g : Nat → Int32} {z : Int32} (h : n ≤ i) : gS n b g z i = z := by
  unfold gS
  rw [show n - i = 0 by omega]
  rfl
/-- some i up to n -/
def gAnyF (b : Nat → Bool) : Nat → Nat → Bool
  | 0, _ => false
  | k + 1, i => b i || gAnyF b k (i + 1)
def gE (n : Nat) (b : Nat → Bool) (i : Nat) : Bool := gAnyF b (n - i) i
theorem gE_step {n i : Nat} {b : Nat → Bool} (h : i < n) : gE n b i = (b i || gE n b (i + 1)) := by
  unfold gE
  rw [show n - i = (n - (i + 1)) + 1 by omega]
  rfl
theorem gE_end {n i : Nat} {b : Nat → Bool} (h : n ≤ i) : gE n b i = false := by
  unfold gE
  rw [show n - i = 0 by omega]
  rfl
