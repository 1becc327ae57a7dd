/-! THE LAW'S OWN METHODS: WORLD OF THE CLASS AND THE CELL THAT TAKES THE ANSWER -/
abbrev LgE (cJ : ClassId) (g : Nat → Int64) : va_E := .inl (cJ, 1, .inr (.inl g))
theorem updL0 {g : Nat → Int64} {x : Int64} : vp_updL g (0 : Int32).toNatClampNeg x 0 = x := by unfold vp_updL; rw [if_pos (by decide)]
theorem in01 : vp_in 0 1 := by unfold vp_in; decide
abbrev wc_W (p : Program) (l : Launch) (e : Env) (ws : List Cond) (rm : Room) (s : State) (m : MethodId) (av : List Value) (below : List Frame) (meth : Method) (c : Code) (D : va_G) (w : va_W) (post : Option Value → va_W → Prop) (H : Heap) (locs : List Loc) (cells slots : Nat) (g : JFrame) : Prop :=
  W p l e (headSpec ws rm).room s m av.toArray below meth c H locs cells slots (vx_MQ below (wr_Q D w post) (fun _ _ _ => False) av.toArray s 1 6 (wr_in w)) g
set_option maxHeartbeats 1000000 in
theorem wc_of {l : Launch} {y : MethodName} {ws ws' : List Cond} {rm : Room} {D : va_G} {w : va_W} {tys : List (ClassId × FieldType)} {av : List Value} {post : Option Value → va_W → Prop} {cc : ByteArray} {maxL : Nat} {ret : Option FieldType} {hh : List (Nat × Nat × Nat × Nat)}
    (hy : plainName y.cls = true) (hw : ws = Cond.codeWith y cc maxL ret hh :: ws') (hlen : (lg_sl av).length ≤ maxL)
    (body : ∀ (p : Program) (e : Env) (s : State) (m : MethodId) (below : List Frame) (meth : Method) (c : Code), p.tables.exec = Jvm.exec → c.code = cc → meth.sig.returnType = ret → c.maxLocals = maxL → (∀ w ∈ ws, w.before av.toArray s = true) → s.vm.findClass y.cls = some m.cls → meth.locks = false → c.exceptionTable.toList = tableOf hh → va_P D vwCl w s.heap → va_K D vwCl tys s → nw_ok s → st_ok (wr_in w) s → th_ok (wr_in w) s → va_D (wr_in w) w → va_S (wr_in w) s.heap s.heap [] →
      ∀ ls : Array Slot, lv_has ls maxL (lv_args 0 av) → wc_W p l e ws rm s m av below meth c D w post s.heap [] 0 0 (F0 m 0 ls [])) : wc_M l y ws rm D w tys av post := by
  refine wc_of_vx (vx_ofWH (cc := cc) (maxL := maxL) (ret := ret) (hh := hh) hy hw ?_)
  intro p e s m args below meth c s₁ B hml hv
  obtain ⟨rfl, ⟨hP, hK, hN, hD, hZ⟩, hT⟩ := hv
  have hown : s.vm.findClass y.cls = some m.cls := findClass_of_methodNamed B.named
  have hts := atoms_spec (ws := ws) B.pre
  have htab := vx_table (x := y) B (hts _ (by rw [hw]; exact List.mem_cons_self))
  have hl := lv_entry av (n := maxL) hlen
  rw [lg_entry_eq]
  exact body p e s m below meth c B.exec B.bytes B.returns hml hts hown B.notSynchronized htab hP hK hN hZ hT hD va_S.rf _ hl
section WCI
variable {p : Program} {l : Launch} {e : Env} {ws : List Cond} {rm : Room} {s : State} {m : MethodId} {av : List Value} {below : List Frame} {meth : Method} {c : Code} {cc : ByteArray} {pc : Nat} {ls : Array Slot} {D : va_G} {w w' : va_W} {post : Option Value → va_W → Prop} {H : Heap} {locs : List Loc}
theorem wc_iret {v : Int32} (hexec : p.tables.exec = Jvm.exec) (hb : c.code = cc) (hr : meth.sig.returnType = some .int) (hlocks : meth.locks = false) (hP : va_P D vwCl w' H) (hS : va_S (wr_in w) s.heap H locs) (hf : w'.map (fun q => q.1) = w.map (fun q => q.1)) (hdg : decode cc pc = .ok (.ireturn, 1)) (hp : post (some (.int v)) w') : wc_W p l e ws rm s m av below meth c D w post H locs (0 + 1) (0 + 6) (F0 m pc ls [.int v]) :=
  vx_ret (W.iret hexec hb hr (fun t ht hW => ⟨⟨_, w', rfl, hp, hf, by rw [ht]; exact hP⟩, hS.F ht⟩) hS.2.2 hdg hlocks)
end WCI
section WCV
variable {p : Program} {l : Launch} {e : Env} {R : Room} {s : State} {m : MethodId} {args : Array Value} {below : List Frame} {meth : Method} {c : Code} {H H0 : Heap} {locs : List Loc} {cells slots : Nat} {Q : State → Prop}
variable {cc : ByteArray} {pc : Nat} {ls : Array Slot} {rest st0 : List Value} {D : va_G} {w0 wz : va_W} {tys tys0 : List (ClassId × FieldType)} {A0 : Nat → Prop}
variable {y : MethodName} {bytes : ByteArray} {maxL nL n index : Nat} {ret : Option FieldType} {ws : List Cond} {rm : Room} {Ts : List Cond} {own C : String} {b : Addr} {As : List Value} {post : Option Value → va_W → Prop} {px : String → va_W → Prop}
/-- an object's method that may throw, over the front of the world -/
theorem wa_callVX {q0 ci N : Nat} {fs : List Value} {T : u_T} (S : CallFix p m c cc nL s args Ts own) (hM : wx_M l y ws rm D w0 tys0 (.ref b :: As) post px) (cw : CallW R s args own C index y bytes maxL ret ws rm 1 6 n) (hK : va_K D vwCl tys s) (hN : nw_ok s) (hZ : st_ok A0 s) (hT : th_ok A0 s) (hP : va_P D vwCl (w0 ++ wz) H) (hD : va_D A0 (w0 ++ wz)) (hS : va_S A0 s.heap H locs)
    (its : List Nat) (ht : its.filterMap (fun i => tys[i]?) = tys0)
    (he : w0[q0]? = some (b, .inr (ci, fs))) (hc : vwCl[ci]? = some (C, T, N)) (hn : As.length = n) (hsize : ls.size = nL) (hst : st0 = As.reverse ++ .ref b :: rest) (hW : (rest.map fun v => v.category).sum ≤ 8) (hf : cells + 1 ≤ R.cells ∧ slots + 6 ≤ R.slots) (hdg : decode cc pc = .ok (.invokevirtual index, 3))
    (kx : ∀ (E : String) (ce : Cell) (q9 : Addr) (w1 : va_W) (H1 : Heap) (locs1 : List Loc), px E w1 → va_P D vwCl (w1 ++ wz) H1 → va_D A0 (w1 ++ wz) → va_S A0 s.heap H1 locs1 → H1[q9]? = some ce → ce.vm = .none → s.vm.findClass E = some ce.cls → vx_W p l e R s m args below meth c H1 locs1 (cells + 1) (slots + 6) Q (F0 m pc ls rest) q9)
    (kk : ∀ (v : Option Value) (w1 : va_W) (H1 : Heap) (locs1 : List Loc), post v w1 → va_P D vwCl (w1 ++ wz) H1 → va_D A0 (w1 ++ wz) → va_S A0 s.heap H1 locs1 → W p l e R s m args below meth c H1 locs1 (cells + 1) (slots + 6) Q (F0 m (pc + 3) ls (v.toList ++ rest))) : W p l e R s m args below meth c H locs cells slots Q (F0 m pc ls st0) := by
  have hP0 : va_P D vwCl w0 H := wa_sub (wa := []) hP
  have hrec := va_recv hK hP0 hc he
  have hpre := wa_preX (wa := []) (av := .ref b :: As) hK hN hZ hT hP hD hS its ht
  exact wa_callX (wa := []) (vx_runV (g := F0 m pc ls st0) S hM cw ⟨wx_blind, hrec, hpre⟩ rfl hn hsize hst (lv_room (ls := ls) (rest := rest) (pc := pc) (m := m) hW) hdg hf) hP hD hS kx kk
end WCV
