/-! METHODS THAT MAY THROW: the post tells what they return, px what they throw, each over the new world -/
def th_strs : List (Nat × String) := [(50, "an argument is out of range"), (60, "there are 8 points, or one stands there"), (76, "no such point"), (87, "weight is out of range"), (93, "width or height is out of range"), (106, "corner is out of range"), (114, "the corner is not open, or the label would clash"), (132, "the label stands, or there is no room"), (141, "code is not 33 to 126"), (147, "the buffer has 60 characters"), (159, "the buffer does not tell points"), (167, "there is no saved state"), (172, "what is not 0 to 8"), (177, "the points are the same, or a corner is out of range"), (183, "x or y is out of range")]
/-- what a throw rests on: Throwable's two statics, which nobody writes; the three classes; the texts -/
def th_sup : List String := ["java/lang/RuntimeException", "java/lang/Exception", Bundle.tN]
def th_no (cls : String) : List Cond := [Cond.castable cls cls, .declares (Bundle.initS "java/lang/RuntimeException"), .declares (Bundle.initS "java/lang/Exception"), .declares (Bundle.initS Bundle.tN)]
def th_ok (A : Nat → Prop) (U : State) : Prop := vx_Zq Bundle.tN "UNASSIGNED_STACK" Bundle.steD A U U.heap ∧ vx_Zq Bundle.tN "SUPPRESSED_SENTINEL" Bundle.listD A U U.heap ∧ (va_Nw (.castable "java/lang/IllegalArgumentException" "java/lang/IllegalArgumentException") U ∧ va_Nw (.castable "java/lang/IllegalStateException" "java/lang/IllegalStateException") U ∧ va_Nw (.castable "java/lang/IndexOutOfBoundsException" "java/lang/IndexOutOfBoundsException") U ∧ ∀ Y ∈ th_sup, va_Nw (.declares (Bundle.initS Y)) U) ∧
  (va_Nc "java/lang/IllegalStateException" "java/lang/IllegalArgumentException" U ∧ va_Nc "java/lang/IllegalArgumentException" "java/lang/IndexOutOfBoundsException" U ∧ va_Nc "java/lang/IllegalStateException" "java/lang/IndexOutOfBoundsException" U) ∧ ∀ q ∈ th_strs, ∃ sa : Nat, vk_R RX4 q.1 q.2 sa U
theorem th_ok.same {A : Nat → Prop} {u U : State} (hv : u.vm = U.vm) (hh : U.heap = u.heap) (h : th_ok A u) : th_ok A U := by
  obtain ⟨z1, z2, ⟨c1, c2, c3, c4⟩, ⟨n1, n2, n3⟩, h4⟩ := h
  have ha : u.vm.Alike U.vm := by rw [hv]; exact Vm.Alike.refl U.vm
  refine ⟨by rw [hh]; exact vx_Zq.moved ha z1, by rw [hh]; exact vx_Zq.moved ha z2, ⟨va_Nw.same rfl hv c1, va_Nw.same rfl hv c2, va_Nw.same rfl hv c3, fun Y hY => va_Nw.same rfl hv (c4 Y hY)⟩, ⟨va_Nc.moved ha n1, va_Nc.moved ha n2, va_Nc.moved ha n3⟩, fun q hq => ?_⟩
  obtain ⟨sa, hs⟩ := h4 q hq
  exact ⟨sa, vk_R.same hv.symm hs⟩
theorem th_ok.kept {A B : Nat → Prop} {s U : State} {locs : List Loc} (hW : s.WarmedH U.vm) (hS : va_S A s.heap U.heap locs) (hAB : ∀ q, B q → A q) (h : th_ok A s) : th_ok B U := by
  obtain ⟨z1, z2, ⟨c1, c2, c3, c4⟩, ⟨n1, n2, n3⟩, h4⟩ := h
  refine ⟨vx_Zq.moved hW.alike ((z1.kept hS.2.1).narrow hAB), vx_Zq.moved hW.alike ((z2.kept hS.2.1).narrow hAB), ⟨va_Nw.warmC hW c1, va_Nw.warmC hW c2, va_Nw.warmC hW c3, fun Y hY => va_Nw.warmD hW (c4 Y hY)⟩, ⟨va_Nc.moved hW.alike n1, va_Nc.moved hW.alike n2, va_Nc.moved hW.alike n3⟩, fun q hq => ?_⟩
  obtain ⟨sa, hs⟩ := h4 q hq
  exact ⟨sa, vk_R.warm hW hs⟩
def wx_B (D : va_G) (w : va_W) (tys : List (ClassId × FieldType)) : State → Prop := fun U => wr_B D w tys U ∧ th_ok (wr_in w) U
theorem wx_blind {av : List Value} {D : va_G} {w : va_W} {tys : List (ClassId × FieldType)} : FrameBlind (va_Pc av (wx_B D w tys)) := by
  intro a U g mk q
  obtain ⟨q0, q1, q2⟩ := q
  exact ⟨q0, (wr_blind (av := av) a U g mk ⟨q0, q1⟩).2, th_ok.same (u := U) (U := U.calling g mk a) rfl rfl q2⟩
def wx_X (D : va_G) (w : va_W) (px : String → va_W → Prop) : String → State → State → Prop := fun E st t => (∃ w' : va_W, px E w' ∧ w'.map (fun q => q.1) = w.map (fun q => q.1) ∧ va_P D vwCl w' t.heap) ∧ va_F (wr_in w) st t
/-- returns or throws; at most one new cell of six slots, the exception -/
def wx_M (l : Launch) (y : MethodName) (ws : List Cond) (rm : Room) (D : va_G) (w : va_W) (tys : List (ClassId × FieldType)) (av : List Value) (post : Option Value → va_W → Prop) (px : String → va_W → Prop) : Prop :=
  vx_Met l y ws rm (va_Pc av (wx_B D w tys)) (wr_Q D w post) (wx_X D w px) 1 6 (wr_in w)
/-- returns, having caught what was thrown -/
def wc_M (l : Launch) (y : MethodName) (ws : List Cond) (rm : Room) (D : va_G) (w : va_W) (tys : List (ClassId × FieldType)) (av : List Value) (post : Option Value → va_W → Prop) : Prop :=
  Met l y ws rm (va_Pc av (wx_B D w tys)) (wr_Q D w post) 1 6 (wr_in w)
abbrev wx_W (p : Program) (l : Launch) (e : Env) (ws : List Cond) (rm : Room) (s : State) (m : MethodId) (av : List Value) (below : List Frame) (meth : Method) (c : Code) (D : va_G) (w : va_W) (post : Option Value → va_W → Prop) (px : String → va_W → Prop) (H : Heap) (locs : List Loc) (g : JFrame) : Prop :=
  W p l e (headSpec ws rm).room s m av.toArray below meth c H locs 0 0 (vx_MQ below (wr_Q D w post) (wx_X D w px) av.toArray s 1 6 (wr_in w)) g
set_option maxHeartbeats 1000000 in
theorem wx_of {l : Launch} {y : MethodName} {ws ws' : List Cond} {rm : Room} {D : va_G} {w : va_W} {tys : List (ClassId × FieldType)} {av : List Value} {post : Option Value → va_W → Prop} {px : String → va_W → Prop} {cc : ByteArray} {maxL : Nat} {ret : Option FieldType}
    (hy : plainName y.cls = true) (hw : ws = Cond.code y cc maxL ret :: ws') (hlen : (lg_sl av).length ≤ maxL)
    (body : ∀ (p : Program) (e : Env) (s : State) (m : MethodId) (below : List Frame) (meth : Method) (c : Code), p.tables.exec = Jvm.exec → c.code = cc → meth.sig.returnType = ret → c.maxLocals = maxL → (∀ w ∈ ws, w.before av.toArray s = true) → s.vm.findClass y.cls = some m.cls → meth.locks = false → (∀ x ∈ c.exceptionTable.toList, False) → va_P D vwCl w s.heap → va_K D vwCl tys s → nw_ok s → st_ok (wr_in w) s → th_ok (wr_in w) s → va_D (wr_in w) w → va_S (wr_in w) s.heap s.heap [] →
      ∀ ls : Array Slot, lv_has ls maxL (lv_args 0 av) → wx_W p l e ws rm s m av below meth c D w post px s.heap [] (F0 m 0 ls [])) : wx_M l y ws rm D w tys av post px := by
  refine vx_ofW (cc := cc) (maxL := maxL) (ret := ret) hy hw ?_
  intro p e s m args below meth c s₁ B hml ht hv
  obtain ⟨rfl, ⟨hP, hK, hN, hD, hZ⟩, hT⟩ := hv
  have hown : s.vm.findClass y.cls = some m.cls := findClass_of_methodNamed B.named
  have hl := lv_entry av (n := maxL) hlen
  rw [lg_entry_eq]
  exact body p e s m below meth c B.exec B.bytes B.returns hml (atoms_spec (ws := ws) B.pre) hown B.notSynchronized ht hP hK hN hZ hT hD va_S.rf _ hl
section WXE
variable {p : Program} {l : Launch} {e : Env} {ws : List Cond} {rm : Room} {s : State} {m : MethodId} {av : List Value} {below : List Frame} {meth : Method} {c : Code} {cc : ByteArray} {pc : Nat} {ls : Array Slot} {D : va_G} {w w' : va_W} {post : Option Value → va_W → Prop} {px : String → va_W → Prop} {H : Heap} {locs : List Loc}
theorem wx_iret {v : Int32} (hexec : p.tables.exec = Jvm.exec) (hb : c.code = cc) (hr : meth.sig.returnType = some .int) (hlocks : meth.locks = false) (hP : va_P D vwCl w' H) (hS : va_S (wr_in w) s.heap H locs) (hf : w'.map (fun q => q.1) = w.map (fun q => q.1)) (hdg : decode cc pc = .ok (.ireturn, 1)) (hp : post (some (.int v)) w') : wx_W p l e ws rm s m av below meth c D w post px H locs (F0 m pc ls [.int v]) :=
  W.widen (k := 1) (n := 6) (Nat.zero_le _) (Nat.zero_le _) (vx_ret (W.iret hexec hb hr (fun t ht hW => ⟨⟨_, w', rfl, hp, hf, by rw [ht]; exact hP⟩, hS.F ht⟩) hS.2.2 hdg hlocks))
theorem vx_atS_all {args : Array Value} {s : State} {ic : Nat} {cls : String} (h1 : ∀ w ∈ (vx_atS RX4 ic cls ["java/lang/RuntimeException", "java/lang/Exception"]).filter goodWord, w.before args s = true) (h2 : ∀ w ∈ (vx_atS RX4 ic cls ["java/lang/RuntimeException", "java/lang/Exception"]).filter (fun w => !goodWord w), w ∈ th_no cls) (h3 : va_Nw (.castable cls cls) s) (h4 : ∀ Y ∈ th_sup, va_Nw (.declares (Bundle.initS Y)) s) : ∀ w ∈ vx_atS RX4 ic cls ["java/lang/RuntimeException", "java/lang/Exception"], w.before args s = true :=
  vx_hat h1 h2 (vx_c (va_Nw.use rfl h3) (vx_c (va_Nw.use rfl (h4 _ (List.mem_cons_self ..))) (vx_c (va_Nw.use rfl (h4 _ (List.mem_cons_of_mem _ (List.mem_cons_self ..)))) (vx_c (va_Nw.use rfl (h4 _ (List.mem_cons_of_mem _ (List.mem_cons_of_mem _ (List.mem_cons_self ..))))) vx_n))))
theorem wx_throw {cls text : String} {ik is ic : Nat} (hexec : p.tables.exec = Jvm.exec) (hb : c.code = cc) (hfl : l.stackTraces = false) (hown : s.vm.findClass RX4 = some m.cls) (hlocks : meth.locks = false) (htab : ∀ x ∈ c.exceptionTable.toList, False) (hsize : ls.size = c.maxLocals) (hT : th_ok (wr_in w) s) (hP : va_P D vwCl w' H) (hS : va_S (wr_in w) s.heap H locs) (hf : w'.map (fun q => q.1) = w.map (fun q => q.1)) (hpx : px cls w')
    (hcls : Bundle.fit cls = true) (hk : (Cond.classLink RX4 ik cls).before av.toArray s = true) (hini : (Cond.initialized cls).before av.toArray s = true) (hst : (is, text) ∈ th_strs)
    (h1 : ∀ w ∈ (vx_atS RX4 ic cls ["java/lang/RuntimeException", "java/lang/Exception"]).filter goodWord, w.before av.toArray s = true) (h2 : ∀ w ∈ (vx_atS RX4 ic cls ["java/lang/RuntimeException", "java/lang/Exception"]).filter (fun w => !goodWord w), w ∈ th_no cls) (h3 : va_Nw (.castable cls cls) s)
    (hgood : ∀ w ∈ Cond.classLink RX4 ik cls :: Cond.initialized cls :: vx_atS RX4 ic cls ["java/lang/RuntimeException", "java/lang/Exception"], vx_ot w = true)
    (d0 : decode cc pc = .ok (.new ik, 3)) (d3 : decode cc (pc + 3) = .ok (.dup, 1)) (d4 : decode cc (pc + 4) = .ok (.ldc is, 2)) (d6 : decode cc (pc + 6) = .ok (.invokespecial ic, 3)) (d9 : decode cc (pc + 9) = .ok (.athrow, 1))
    (hfr : 6 ≤ rm.frames) (hlo : 82 ≤ rm.locals) (hce : 1 ≤ rm.cells) (hsl : 6 ≤ rm.slots) : wx_W p l e ws rm s m av below meth c D w post px H locs (F0 m pc ls []) := by
  obtain ⟨z1, z2, ⟨-, -, -, h5⟩, -, h4⟩ := id hT
  obtain ⟨sa, hsa⟩ := h4 _ hst
  refine vx_throwS (names := ["java/lang/RuntimeException", "java/lang/Exception"]) (ik := ik) (is := is) (ic := ic) (text := text) (sa := sa) (A := wr_in w) hexec hb hfl hown hcls (by decide +kernel) hk hini hsa (vx_atS_all h1 h2 h3 h5) hgood z1 z2 hS hsize d0 d3 d4 d6 d9 (fun x hx => (htab x hx).elim) ?_ ?_ ?_ ?_ hlocks ?_ hS.2.2 (by omega) (by omega)
  · show 2 + 3 < rm.frames; omega
  · show 0 + (13 * (2 + 1) + 43) ≤ rm.locals; omega
  · show 0 + 1 ≤ rm.cells; omega
  · show 0 + 6 ≤ rm.slots; omega
  · intro t hvm hz hq
    refine ⟨⟨w', hpx, hf, hP.kept (fun k x hx => hq x.1 ((hP k x hx).lt))⟩, Nat.le_trans hS.1 hz, fun q h5 h6 => ?_⟩
    rw [hq q (Nat.lt_of_lt_of_le h5 hS.1)]
    exact hS.2.1 q h5 h6
end WXE
section WXC
variable {p : Program} {l : Launch} {e : Env} {R : Room} {s : State} {m : MethodId} {args : Array Value} {below : List Frame} {meth : Method} {c : Code} {H H0 : Heap} {locs : List Loc} {cells slots mc ms : Nat} {Q : State → Prop}
variable {cc : ByteArray} {pc : Nat} {ls : Array Slot} {rest st0 : List Value} {D : va_G} {w w0 : va_W} {tys tys0 : List (ClassId × FieldType)} {A0 : Nat → Prop}
variable {y : MethodName} {bytes : ByteArray} {maxL nL n index : Nat} {ret : Option FieldType} {ws : List Cond} {rm : Room} {Ts : List Cond} {own C : String} {b : Addr} {As : List Value} {post : Option Value → va_W → Prop} {px : String → va_W → Prop}
theorem wm_in (hD : va_D A0 w) (is : List Nat) (hC : is.map (fun i => w[i]?) = w0.map some) : ∀ q : Nat, wr_in w0 q → A0 q := by
  rintro q ⟨k, e9, hk⟩
  have h1 : (w0.map some)[k]? = some (some (q, e9)) := by rw [List.getElem?_map, hk]; rfl
  rw [← hC, List.getElem?_map] at h1
  cases hi : is[k]? with
  | none => rw [hi] at h1; cases h1
  | some i => rw [hi] at h1; exact hD.2 i (q, e9) (Option.some.inj h1)
/-- a call that makes new cells -/
theorem wm_call {a : Array Value} (hr : va_Run p l e R s m args below meth c H locs cells slots mc ms (F0 m pc ls st0) rest (wr_Q D w0 post a) (wr_in w0)) (hP : va_P D vwCl w H) (hD : va_D A0 w) (hS : va_S A0 H0 H locs) (is : List Nat) (hC : is.map (fun i => w[i]?) = w0.map some)
    (kk : ∀ (v : Option Value) (w1 : va_W) (H1 : Heap) (locs1 : List Loc), post v w1 → va_P D vwCl (wr_set w is w1) H1 → va_D A0 (wr_set w is w1) → va_S A0 H0 H1 locs1 → W p l e R s m args below meth c H1 locs1 (cells + mc) (slots + ms) Q (F0 m (pc + 3) ls (v.toList ++ rest))) : W p l e R s m args below meth c H locs cells slots Q (F0 m pc ls st0) := by
  have hA := wm_in hD is hC
  intro T hT X
  obtain ⟨v, st₀, t, T', L, h0, X', hL, e1, e2, ⟨⟨v', w1, hv, hp, hm, hb⟩, hz, hk⟩, st⟩ := hr T hT X
  cases hv
  rw [h0] at hz hk
  rw [← e1] at hz hk hb
  obtain ⟨P1, D1, -⟩ := wr_join hP hD is hC hk hb hm
  have S1 : va_S A0 H0 T'.heap (locs ++ L) := ⟨Nat.le_trans hS.1 hz, fun q h1 h2 => (hk q (Nat.lt_of_lt_of_le h1 hS.1) (fun z => h2 (hA q z))).trans (hS.2.1 q h1 h2), fun q hq => by
    rcases List.mem_append.mp hq with h | h
    · exact hS.2.2 q h
    · exact hA _ (hL q h)⟩
  obtain ⟨t2, a1, b1⟩ := kk v w1 T'.heap (locs ++ L) hp P1 D1 S1 T' rfl X'
  exact ⟨t2, st t2 a1, b1⟩
/-- a call that may throw -/
theorem wx_call {a : Array Value} (hr : vx_Run p l e R s m args below meth c H locs cells slots mc ms (F0 m pc ls st0) rest (wr_Q D w0 post a) (wx_X D w0 px) (wr_in w0)) (hP : va_P D vwCl w H) (hD : va_D A0 w) (hS : va_S A0 H0 H locs) (is : List Nat) (hC : is.map (fun i => w[i]?) = w0.map some)
    (kx : ∀ (E : String) (ce : Cell) (q9 : Addr) (w1 : va_W) (H1 : Heap) (locs1 : List Loc), px E w1 → va_P D vwCl (wr_set w is w1) H1 → va_D A0 (wr_set w is w1) → va_S A0 H0 H1 locs1 → H1[q9]? = some ce → ce.vm = .none → s.vm.findClass E = some ce.cls → vx_W p l e R s m args below meth c H1 locs1 (cells + mc) (slots + ms) Q (F0 m pc ls rest) q9)
    (kk : ∀ (v : Option Value) (w1 : va_W) (H1 : Heap) (locs1 : List Loc), post v w1 → va_P D vwCl (wr_set w is w1) H1 → va_D A0 (wr_set w is w1) → va_S A0 H0 H1 locs1 → W p l e R s m args below meth c H1 locs1 (cells + mc) (slots + ms) Q (F0 m (pc + 3) ls (v.toList ++ rest))) : W p l e R s m args below meth c H locs cells slots Q (F0 m pc ls st0) := by
  have hA := wm_in hD is hC
  have S1 : ∀ {T' : State} {L : List Loc}, (∀ q ∈ L, wr_in w0 q.base) → H.size ≤ T'.heap.size → (∀ q : Nat, q < H.size → ¬ wr_in w0 q → T'.heap[q]? = H[q]?) → va_S A0 H0 T'.heap (locs ++ L) := by
    intro T' L hL hz hk
    exact ⟨Nat.le_trans hS.1 hz, fun q h1 h2 => (hk q (Nat.lt_of_lt_of_le h1 hS.1) (fun z => h2 (hA q z))).trans (hS.2.1 q h1 h2), fun q hq => by
      rcases List.mem_append.mp hq with h | h
      · exact hS.2.2 q h
      · exact hA _ (hL q h)⟩
  intro T hT X
  rcases hr T hT X with ⟨v, st₀, t, T', L, h0, X', hL, e1, e2, ⟨⟨v', w1, hv, hp, hm, hb⟩, hz, hk⟩, st⟩ | ⟨q, st₀, t, T', L, E, ce, h0, X', hL, e1, e2, ⟨⟨w1, hp, hm, hb⟩, hz, hk⟩, hce, hcv, hcl, st⟩
  · cases hv
    rw [h0] at hz hk
    rw [← e1] at hz hk hb
    obtain ⟨P1, D1, -⟩ := wr_join hP hD is hC hk hb hm
    obtain ⟨t2, a1, b1⟩ := kk v w1 T'.heap (locs ++ L) hp P1 D1 (S1 hL hz hk) T' rfl X'
    exact ⟨t2, st t2 a1, b1⟩
  · rw [h0] at hz hk
    rw [← e1] at hz hk hb hce
    obtain ⟨P1, D1, -⟩ := wr_join hP hD is hC hk hb hm
    obtain ⟨t2, a1, b1⟩ := kx E ce q w1 T'.heap (locs ++ L) hp P1 D1 (S1 hL hz hk) hce hcv hcl T' rfl X'
    exact ⟨t2, st.trans a1, b1⟩
theorem wx_pre (hK : va_K D vwCl tys s) (hN : nw_ok s) (hZ : st_ok A0 s) (hT : th_ok A0 s) (hP : va_P D vwCl w H) (hD : va_D A0 w) (hS : va_S A0 s.heap H locs) (is : List Nat) (hC : is.map (fun i => w[i]?) = w0.map some) (hnd : va_nd is = true) (its : List Nat) (ht : its.filterMap (fun i => tys[i]?) = tys0) {av : List Value} : ∀ U : State, U.heap = H → s.WarmedH U.vm → va_Pc av (wx_B D w0 tys0) av.toArray U := by
  intro U hU hW
  obtain ⟨a1, a2⟩ := wr_pre (av := av) hK hN hZ hP hD hS is hC hnd its ht U hU hW
  exact ⟨a1, a2, th_ok.kept (locs := locs) hW (by rw [hU]; exact hS) (wm_in hD is hC) hT⟩
theorem wx_callV {q0 ci N : Nat} {fs : List Value} {T : u_T} (S : CallFix p m c cc nL s args Ts own) (hM : wx_M l y ws rm D w0 tys0 (.ref b :: As) post px) (cw : CallW R s args own C index y bytes maxL ret ws rm 1 6 n) (hK : va_K D vwCl tys s) (hN : nw_ok s) (hZ : st_ok A0 s) (hT : th_ok A0 s) (hP : va_P D vwCl w H) (hD : va_D A0 w) (hS : va_S A0 s.heap H locs)
    (is its : List Nat) (hC : is.map (fun i => w[i]?) = w0.map some) (hnd : va_nd is = true) (ht : its.filterMap (fun i => tys[i]?) = tys0)
    (he : w[q0]? = some (b, .inr (ci, fs))) (hc : vwCl[ci]? = some (C, T, N)) (hn : As.length = n) (hsize : ls.size = nL) (hst : st0 = As.reverse ++ .ref b :: rest) (hW : (rest.map fun v => v.category).sum ≤ 8) (hf : cells + 1 ≤ R.cells ∧ slots + 6 ≤ R.slots) (hdg : decode cc pc = .ok (.invokevirtual index, 3))
    (kx : ∀ (E : String) (ce : Cell) (q9 : Addr) (w1 : va_W) (H1 : Heap) (locs1 : List Loc), px E w1 → va_P D vwCl (wr_set w is w1) H1 → va_D A0 (wr_set w is w1) → va_S A0 s.heap H1 locs1 → H1[q9]? = some ce → ce.vm = .none → s.vm.findClass E = some ce.cls → vx_W p l e R s m args below meth c H1 locs1 (cells + 1) (slots + 6) Q (F0 m pc ls rest) q9)
    (kk : ∀ (v : Option Value) (w1 : va_W) (H1 : Heap) (locs1 : List Loc), post v w1 → va_P D vwCl (wr_set w is w1) H1 → va_D A0 (wr_set w is w1) → va_S A0 s.heap H1 locs1 → W p l e R s m args below meth c H1 locs1 (cells + 1) (slots + 6) Q (F0 m (pc + 3) ls (v.toList ++ rest))) : W p l e R s m args below meth c H locs cells slots Q (F0 m pc ls st0) := by
  have hrec := va_recv hK hP hc he
  have hpre := wx_pre (av := .ref b :: As) hK hN hZ hT hP hD hS is hC hnd its ht
  exact wx_call (vx_runV (g := F0 m pc ls st0) S hM cw ⟨wx_blind, hrec, hpre⟩ rfl hn hsize hst (lv_room (ls := ls) (rest := rest) (pc := pc) (m := m) hW) hdg hf) hP hD hS is hC kx kk
/-- a static call of a method with a table of its own, which catches what is thrown -/
theorem wc_callS {hh : List (Nat × Nat × Nat × Nat)} (S : CallFix p m c cc nL s args Ts own) (hM : wc_M l y ws rm D w0 tys0 As post) (cw : vx_CSW R s args own index y bytes maxL ret hh ws rm 1 6 n) (hK : va_K D vwCl tys s) (hN : nw_ok s) (hZ : st_ok A0 s) (hT : th_ok A0 s) (hP : va_P D vwCl w H) (hD : va_D A0 w) (hS : va_S A0 s.heap H locs)
    (is its : List Nat) (hC : is.map (fun i => w[i]?) = w0.map some) (hnd : va_nd is = true) (ht : its.filterMap (fun i => tys[i]?) = tys0)
    (hn : As.length = n) (hsize : ls.size = nL) (hst : st0 = As.reverse ++ rest) (hW : (rest.map fun v => v.category).sum ≤ 8) (hf : cells + 1 ≤ R.cells ∧ slots + 6 ≤ R.slots) (hdg : decode cc pc = .ok (.invokestatic index, 3))
    (kk : ∀ (v : Option Value) (w1 : va_W) (H1 : Heap) (locs1 : List Loc), post v w1 → va_P D vwCl (wr_set w is w1) H1 → va_D A0 (wr_set w is w1) → va_S A0 s.heap H1 locs1 → W p l e R s m args below meth c H1 locs1 (cells + 1) (slots + 6) Q (F0 m (pc + 3) ls (v.toList ++ rest))) : W p l e R s m args below meth c H locs cells slots Q (F0 m pc ls st0) := by
  have hpre := wx_pre (av := As) hK hN hZ hT hP hD hS is hC hnd its ht
  exact wm_call (vx_runSW (g := F0 m pc ls st0) S hM cw ⟨wx_blind, hpre⟩ rfl hn hsize hst (lv_room (ls := ls) (rest := rest) (pc := pc) (m := m) hW) hdg hf) hP hD hS is hC kk
end WXC
theorem wc_of_vx {l : Launch} {y : MethodName} {ws : List Cond} {rm : Room} {Pc : Array Value → State → Prop} {Qc : Array Value → State → Outcome → State → Prop} {mc ms : Nat} {free : Addr → Prop} (h : vx_Met l y ws rm Pc Qc (fun _ _ _ => False) mc ms free) : Met l y ws rm Pc Qc mc ms free := by
  unfold vx_Met at h
  unfold Met
  refine MetFree.mono h (fun a s q => q) (fun _ _ _ _ _ k => k) (fun a s o t _ q => ?_)
  rcases q with q | ⟨q9, -, E, ce, L, hx, -⟩
  · exact q
  · exact hx.elim
/-! long and double answers of writing methods -/
section WRD
variable {p : Program} {l : Launch} {e : Env} {ws : List Cond} {rm : Room} {s : State} {m : MethodId} {av : List Value} {below : List Frame} {meth : Method} {c : Code} {cc : ByteArray} {pc : Nat} {ls : Array Slot} {D : va_G} {w w' : va_W} {post : Option Value → va_W → Prop} {H : Heap} {locs : List Loc}
theorem wr_dret {v : UInt64} (hexec : p.tables.exec = Jvm.exec) (hb : c.code = cc) (hr : meth.sig.returnType = some .double) (hlocks : meth.locks = false) (hP : va_P D vwCl w' H) (hS : va_S (wr_in w) s.heap H locs) (hf : w'.map (fun q => q.1) = w.map (fun q => q.1)) (hdg : decode cc pc = .ok (.dreturn, 1)) (hp : post (some (.double v)) w') : wr_W p l e ws rm s m av below meth c D w post H locs (F0 m pc ls [.double v]) :=
  W.dret hexec hb hr (fun t ht hW => ⟨⟨_, w', rfl, hp, hf, by rw [ht]; exact hP⟩, hS.F ht⟩) hS.2.2 hdg hlocks
end WRD
