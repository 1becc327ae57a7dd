/-! WRITING METHODS: the world's cells stay where they are; what they hold behind the call is told by the post -/
def wr_in (w : va_W) : Nat → Prop := fun q => ∃ (k : Nat) (e : va_E), w[k]? = some (q, e)
def tyLeast (j : Nat) : Int32 := if j < 2 then 0 else 1
def tyMost (j : Nat) : Int32 := if j = 0 then 59 else if j = 1 then 39 else if j = 2 then 20 else if j = 3 then 9 else 99
/-- the two tables of Typed, which nobody writes, stand outside of what is written -/
def st_ok (A : Nat → Prop) (U : State) : Prop := (∃ t : Nat, va_Z "CornerLabels$Typed" "LEAST" "[I" (.ref t) A U U.heap ∧ va_T .int t 5 (fun j => .int (tyLeast j)) A U U.heap) ∧ ∃ t : Nat, va_Z "CornerLabels$Typed" "MOST" "[I" (.ref t) A U U.heap ∧ va_T .int t 5 (fun j => .int (tyMost j)) A U U.heap
theorem st_ok.same {A : Nat → Prop} {u U : State} (hv : u.vm.Alike U.vm) (hh : U.heap = u.heap) (h : st_ok A u) : st_ok A U := by
  obtain ⟨⟨t1, z1, a1⟩, t2, z2, a2⟩ := h
  exact ⟨⟨t1, by rw [hh]; exact z1.moved hv, by rw [hh]; exact a1.moved hv⟩, t2, by rw [hh]; exact z2.moved hv, by rw [hh]; exact a2.moved hv⟩
theorem st_ok.kept {A B : Nat → Prop} {s U : State} {locs : List Loc} (hv : s.vm.Alike U.vm) (hS : va_S A s.heap U.heap locs) (hAB : ∀ q, B q → A q) (h : st_ok A s) : st_ok B U := by
  obtain ⟨⟨t1, z1, a1⟩, t2, z2, a2⟩ := h
  exact ⟨⟨t1, ((z1.kept hS.2.1).narrow hAB).moved hv, ((a1.kept hS.2.1).narrow hAB).moved hv⟩, t2, ((z2.kept hS.2.1).narrow hAB).moved hv, ((a2.kept hS.2.1).narrow hAB).moved hv⟩
def wr_B (D : va_G) (w : va_W) (tys : List (ClassId × FieldType)) : State → Prop := fun U => va_P D vwCl w U.heap ∧ va_K D vwCl tys U ∧ nw_ok U ∧ va_D (wr_in w) w ∧ st_ok (wr_in w) U
theorem wr_blind {av : List Value} {D : va_G} {w : va_W} {tys : List (ClassId × FieldType)} : FrameBlind (va_Pc av (wr_B D w tys)) := by
  intro a U g mk q
  obtain ⟨q0, qP, qK, qN, qD, qZ⟩ := q
  exact ⟨q0, qP, va_K.moved (u := U) (U := U.calling g mk a) (Vm.Alike.refl U.vm) qK, nw_ok.same (u := U) rfl qN, qD, st_ok.same (u := U) (U := U.calling g mk a) (Vm.Alike.refl U.vm) rfl qZ⟩
def wr_Q (D : va_G) (w : va_W) (post : Option Value → va_W → Prop) : Array Value → State → Outcome → State → Prop := fun _ st oc t =>
  (∃ (v : Option Value) (w' : va_W), oc = .returned v ∧ post v w' ∧ w'.map (fun q => q.1) = w.map (fun q => q.1) ∧ va_P D vwCl w' t.heap) ∧ va_F (wr_in w) st t
def wr_M (l : Launch) (y : MethodName) (ws : List Cond) (rm : Room) (D : va_G) (w : va_W) (tys : List (ClassId × FieldType)) (av : List Value) (post : Option Value → va_W → Prop) : Prop :=
  Met l y ws rm (va_Pc av (wr_B D w tys)) (wr_Q D w post) 0 0 (wr_in w)
abbrev wr_W (p : Program) (l : Launch) (e : Env) (ws : List Cond) (rm : Room) (s : State) (m : MethodId) (av : List Value) (below : List Frame) (meth : Method) (c : Code) (D : va_G) (w : va_W) (post : Option Value → va_W → Prop) (H : Heap) (locs : List Loc) (g : JFrame) : Prop :=
  W p l e (headSpec ws rm).room s m av.toArray below meth c H locs 0 0 (MQ below (wr_Q D w post) av.toArray s 0 0 (wr_in w)) g
set_option maxHeartbeats 1000000 in
theorem wr_of {l : Launch} {y : MethodName} {ws ws' : List Cond} {rm : Room} {D : va_G} {w : va_W} {tys : List (ClassId × FieldType)} {av : List Value} {post : Option Value → va_W → Prop} {cc : ByteArray} {maxL : Nat} {ret : Option FieldType}
    (hy : plainName y.cls = true) (hw : ws = Cond.code y cc maxL ret :: ws') (hlen : (lg_sl av).length ≤ maxL)
    (body : ∀ (p : Program) (e : Env) (s : State) (m : MethodId) (below : List Frame) (meth : Method) (c : Code), p.tables.exec = Jvm.exec → c.code = cc → meth.sig.returnType = ret → c.maxLocals = maxL → (∀ w ∈ ws, w.before av.toArray s = true) → s.vm.findClass y.cls = some m.cls → meth.locks = false → va_P D vwCl w s.heap → va_K D vwCl tys s → nw_ok s → st_ok (wr_in w) s → va_D (wr_in w) w → va_S (wr_in w) s.heap s.heap [] →
      ∀ ls : Array Slot, lv_has ls maxL (lv_args 0 av) → wr_W p l e ws rm s m av below meth c D w post s.heap [] (F0 m 0 ls [])) : wr_M l y ws rm D w tys av post := by
  refine Met.ofW (cc := cc) (maxL := maxL) (ret := ret) hy hw ?_
  intro p e s m args below meth c s₁ B hml hv
  obtain ⟨rfl, hP, hK, hN, hD, hZ⟩ := hv
  have hown : s.vm.findClass y.cls = some m.cls := findClass_of_methodNamed B.named
  have hl := lv_entry av (n := maxL) hlen
  rw [lg_entry_eq]
  exact body p e s m below meth c B.exec B.bytes B.returns hml (atoms_spec (ws := ws) B.pre) hown B.notSynchronized hP hK hN hZ hD va_S.rf _ hl
theorem va_D_fst {A : Nat → Prop} {w w' : va_W} (h : w'.map (fun q => q.1) = w.map (fun q => q.1)) (hD : va_D A w) : va_D A w' := by
  have key : ∀ (k : Nat) (q : Nat × va_E), w'[k]? = some q → ∃ q2, w[k]? = some q2 ∧ q2.1 = q.1 := by
    intro k q hk
    have h1 : (w'.map (fun q => q.1))[k]? = some q.1 := by rw [List.getElem?_map, hk]; rfl
    rw [h, List.getElem?_map] at h1
    cases hq : w[k]? with
    | none => rw [hq] at h1; cases h1
    | some q2 => rw [hq] at h1; exact ⟨q2, rfl, Option.some.inj h1⟩
  refine ⟨fun i j x y hi hj hxy => ?_, fun k q hk => ?_⟩
  · obtain ⟨x2, a1, a2⟩ := key i x hi
    obtain ⟨y2, b1, b2⟩ := key j y hj
    exact hD.1 i j x2 y2 a1 b1 (by rw [a2, b2, hxy])
  · obtain ⟨q2, a1, a2⟩ := key k q hk
    rw [← a2]
    exact hD.2 k q2 a1
/-- a world with some of its cells told anew -/
def wr_set : va_W → List Nat → va_W → va_W
  | w, [], _ => w
  | w, _ :: _, [] => w
  | w, i :: is, x :: xs => wr_set (w.set i x) is xs
theorem wr_set_get : ∀ (is : List Nat) (w w1 : va_W) (k : Nat) (q : Nat × va_E), (wr_set w is w1)[k]? = some q → (∃ j : Nat, w1[j]? = some q ∧ is[j]? = some k) ∨ (w[k]? = some q ∧ (k ∉ is ∨ w1.length < is.length))
  | [], w, w1, k, q, h => Or.inr ⟨by rw [wr_set] at h; exact h, Or.inl (by simp)⟩
  | i :: is, w, [], k, q, h => Or.inr ⟨by rw [wr_set] at h; exact h, Or.inr (by simp)⟩
  | i :: is, w, x :: xs, k, q, h => by
    rcases wr_set_get is (w.set i x) xs k q h with ⟨j, h1, h2⟩ | ⟨h1, h2⟩
    · exact Or.inl ⟨j + 1, by simpa using h1, by simpa using h2⟩
    · by_cases hki : i = k
      · subst hki
        refine Or.inl ⟨0, ?_, by simp⟩
        rw [List.getElem?_set_self'] at h1
        cases hw : w[i]? with
        | none => rw [hw] at h1; cases h1
        | some y => rw [hw] at h1; simpa using h1
      · rw [List.getElem?_set_ne hki] at h1
        refine Or.inr ⟨h1, ?_⟩
        rcases h2 with h2 | h2
        · exact Or.inl (by simp only [List.mem_cons, not_or]; exact ⟨fun z => hki z.symm, h2⟩)
        · exact Or.inr (by simpa using h2)
theorem wr_set_fst : ∀ (is : List Nat) (w w1 : va_W), (∀ (j i : Nat) (q : Nat × va_E), is[j]? = some i → w1[j]? = some q → ∃ q2, w[i]? = some q2 ∧ q2.1 = q.1) → (wr_set w is w1).map (fun q => q.1) = w.map (fun q => q.1)
  | [], w, w1, h => by rw [wr_set]
  | i :: is, w, [], h => by rw [wr_set]
  | i :: is, w, x :: xs, h => by
    have hx : (w.set i x).map (fun q => q.1) = w.map (fun q => q.1) := by
      obtain ⟨q2, h1, h2⟩ := h 0 i x (by simp) (by simp)
      rw [List.map_set]
      apply List.ext_getElem?
      intro k
      by_cases hk : i = k
      · subst hk
        rw [List.getElem?_set_self', List.getElem?_map, h1]
        simp [h2]
      · rw [List.getElem?_set_ne hk]
    refine (wr_set_fst is (w.set i x) xs (fun j i2 q h1 h2 => ?_)).trans hx
    obtain ⟨q2, h3, h4⟩ := h (j + 1) i2 q (by simpa using h1) (by simpa using h2)
    have h5 : ((w.set i x).map (fun q => q.1))[i2]? = some q.1 := by rw [hx, List.getElem?_map, h3]; simp [h4]
    rw [List.getElem?_map] at h5
    cases hz : (w.set i x)[i2]? with
    | none => rw [hz] at h5; cases h5
    | some z => rw [hz] at h5; exact ⟨z, rfl, Option.some.inj h5⟩
theorem wr_join {A0 : Nat → Prop} {D : va_G} {w w0 w1 : va_W} {H H1 : Heap} (hP : va_P D vwCl w H) (hD : va_D A0 w) (is : List Nat) (hC : is.map (fun i => w[i]?) = w0.map some)
    (hk : ∀ q : Nat, q < H.size → ¬ wr_in w0 q → H1[q]? = H[q]?) (hP1 : va_P D vwCl w1 H1) (hf : w1.map (fun q => q.1) = w0.map (fun q => q.1)) : va_P D vwCl (wr_set w is w1) H1 ∧ va_D A0 (wr_set w is w1) ∧ (wr_set w is w1).map (fun q => q.1) = w.map (fun q => q.1) := by
  have at1 : ∀ (j i : Nat), is[j]? = some i → ∃ q, w0[j]? = some q ∧ w[i]? = some q := by
    intro j i hj
    have h1 : (is.map (fun i => w[i]?))[j]? = some (w[i]?) := by rw [List.getElem?_map, hj]; rfl
    rw [hC, List.getElem?_map] at h1
    cases hq : w0[j]? with
    | none => rw [hq] at h1; cases h1
    | some q => rw [hq] at h1; exact ⟨q, rfl, (Option.some.inj h1).symm⟩
  have at2 : ∀ (j : Nat) (q : Nat × va_E), w0[j]? = some q → ∃ i, is[j]? = some i ∧ w[i]? = some q := by
    intro j q hj
    have h1 : (w0.map some)[j]? = some (some q) := by rw [List.getElem?_map, hj]; rfl
    rw [← hC, List.getElem?_map] at h1
    cases hi : is[j]? with
    | none => rw [hi] at h1; cases h1
    | some i => rw [hi] at h1; exact ⟨i, rfl, Option.some.inj h1⟩
  have fst : (wr_set w is w1).map (fun q => q.1) = w.map (fun q => q.1) := by
    refine wr_set_fst is w w1 (fun j i q h1 h2 => ?_)
    obtain ⟨q2, h3, h4⟩ := at1 j i h1
    refine ⟨q2, h4, ?_⟩
    have h5 : (w1.map (fun q => q.1))[j]? = some q.1 := by rw [List.getElem?_map, h2]; rfl
    rw [hf, List.getElem?_map, h3] at h5
    exact Option.some.inj h5
  have hlen : is.length = w0.length := by simpa using congrArg List.length hC
  have hlen1 : w1.length = w0.length := by simpa using congrArg List.length hf
  refine ⟨fun k q hkq => ?_, va_D_fst fst hD, fst⟩
  rcases wr_set_get is w w1 k q hkq with ⟨j, h1, -⟩ | ⟨h1, h2⟩
  · exact hP1 j q h1
  · rcases h2 with h2 | h2
    · refine (hP k q h1).kept (hk q.1 (hP k q h1).lt (fun hz => ?_))
      obtain ⟨j, e, hj⟩ := hz
      obtain ⟨i, h3, h4⟩ := at2 j (q.1, e) hj
      have hik := hD.1 i k (q.1, e) q h4 h1 rfl
      subst hik
      exact h2 (List.mem_of_getElem? h3)
    · omega
section WRC
variable {p : Program} {l : Launch} {e : Env} {R : Room} {s : State} {m : MethodId} {args : Array Value} {below : List Frame} {meth : Method} {c : Code} {H H0 : Heap} {locs : List Loc} {cells slots : Nat} {Q : State → Prop}
variable {cc : ByteArray} {pc : Nat} {ls : Array Slot} {rest st0 : List Value} {D : va_G} {w w0 : va_W} {tys tys0 : List (ClassId × FieldType)} {A0 : Nat → Prop}
variable {y : MethodName} {bytes : ByteArray} {maxL nL n index : Nat} {ret : Option FieldType} {ws : List Cond} {rm : Room} {Ts : List Cond} {own C : String} {b : Addr} {As : List Value} {post : Option Value → va_W → Prop}
theorem wr_call {a : Array Value} (hr : va_Run p l e R s m args below meth c H locs cells slots 0 0 (F0 m pc ls st0) rest (wr_Q D w0 post a) (wr_in w0)) (hP : va_P D vwCl w H) (hD : va_D A0 w) (hS : va_S A0 H0 H locs) (is : List Nat) (hC : is.map (fun i => w[i]?) = w0.map some)
    (kk : ∀ (v : Option Value) (w1 : va_W) (H1 : Heap) (locs1 : List Loc), post v w1 → va_P D vwCl (wr_set w is w1) H1 → va_D A0 (wr_set w is w1) → va_S A0 H0 H1 locs1 → W p l e R s m args below meth c H1 locs1 cells slots Q (F0 m (pc + 3) ls (v.toList ++ rest))) : W p l e R s m args below meth c H locs cells slots Q (F0 m pc ls st0) := by
  have hA : ∀ q : Nat, wr_in w0 q → A0 q := by
    rintro q ⟨k, e9, hk⟩
    have h1 : (w0.map some)[k]? = some (some (q, e9)) := by rw [List.getElem?_map, hk]; rfl
    rw [← hC, List.getElem?_map] at h1
    cases hi : is[k]? with
    | none => rw [hi] at h1; cases h1
    | some i => rw [hi] at h1; exact hD.2 i (q, e9) (Option.some.inj h1)
  intro T hT X
  obtain ⟨v, st₀, t, T', L, h0, X', hL, e1, e2, ⟨⟨v', w1, hv, hp, hm, hb⟩, hz, hk⟩, st⟩ := hr T hT X
  cases hv
  rw [h0] at hz hk
  rw [← e1] at hz hk hb
  obtain ⟨P1, D1, -⟩ := wr_join hP hD is hC hk hb hm
  have S1 : va_S A0 H0 T'.heap (locs ++ L) := ⟨Nat.le_trans hS.1 hz, fun q h1 h2 => (hk q (Nat.lt_of_lt_of_le h1 hS.1) (fun z => h2 (hA q z))).trans (hS.2.1 q h1 h2), fun q hq => by
    rcases List.mem_append.mp hq with h | h
    · exact hS.2.2 q h
    · exact hA _ (hL q h)⟩
  obtain ⟨t2, a1, b1⟩ := kk v w1 T'.heap (locs ++ L) hp P1 D1 S1 T' rfl X'
  exact ⟨t2, st t2 a1, b1⟩
/-- the callee's part of a world -/
theorem wr_pre (hK : va_K D vwCl tys s) (hN : nw_ok s) (hZ : st_ok A0 s) (hP : va_P D vwCl w H) (hD : va_D A0 w) (hS : va_S A0 s.heap H locs) (is : List Nat) (hC : is.map (fun i => w[i]?) = w0.map some) (hnd : va_nd is = true) (its : List Nat) (ht : its.filterMap (fun i => tys[i]?) = tys0) {av : List Value} : ∀ U : State, U.heap = H → s.WarmedH U.vm → va_Pc av (wr_B D w0 tys0) av.toArray U := by
  intro U hU hW
  have hD0 := hD.sub is hnd hC
  refine ⟨rfl, ?_, va_K.moved hW.alike (hK.sub its ht), hN.warm hW, ⟨hD0.1, fun k q hk => ⟨k, q.2, hk⟩⟩, st_ok.kept (locs := locs) hW.alike (by rw [hU]; exact hS) (fun q hq => ?_) hZ⟩
  rotate_left
  · obtain ⟨k, e9, hk⟩ := hq
    exact hD0.2 k (q, e9) hk
  rw [hU]
  refine hP.sub is ?_
  have h1 : ∀ (l : List Nat) (w9 : va_W), l.map (fun i => w[i]?) = w9.map some → l.filterMap (fun i => w[i]?) = w9 := by
    intro l
    induction l with
    | nil => intro w9 h; cases w9 with
      | nil => rfl
      | cons => simp at h
    | cons i l ih => intro w9 h; cases w9 with
      | nil => simp at h
      | cons x w9 =>
        simp only [List.map_cons, List.cons.injEq] at h
        rw [List.filterMap_cons, h.1]
        simp only [ih w9 h.2]
  exact h1 is w0 hC
theorem wr_callV {q0 ci N : Nat} {fs : List Value} {T : u_T} (S : CallFix p m c cc nL s args Ts own) (hM : wr_M l y ws rm D w0 tys0 (.ref b :: As) post) (cw : CallW R s args own C index y bytes maxL ret ws rm 0 0 n) (hK : va_K D vwCl tys s) (hN : nw_ok s) (hZ : st_ok A0 s) (hP : va_P D vwCl w H) (hD : va_D A0 w) (hS : va_S A0 s.heap H locs)
    (is its : List Nat) (hC : is.map (fun i => w[i]?) = w0.map some) (hnd : va_nd is = true) (ht : its.filterMap (fun i => tys[i]?) = tys0)
    (he : w[q0]? = some (b, .inr (ci, fs))) (hc : vwCl[ci]? = some (C, T, N)) (hn : As.length = n) (hsize : ls.size = nL) (hst : st0 = As.reverse ++ .ref b :: rest) (hW : (rest.map fun v => v.category).sum ≤ 8) (hf : cells ≤ R.cells ∧ slots ≤ R.slots) (hdg : decode cc pc = .ok (.invokevirtual index, 3))
    (kk : ∀ (v : Option Value) (w1 : va_W) (H1 : Heap) (locs1 : List Loc), post v w1 → va_P D vwCl (wr_set w is w1) H1 → va_D A0 (wr_set w is w1) → va_S A0 s.heap H1 locs1 → W p l e R s m args below meth c H1 locs1 cells slots Q (F0 m (pc + 3) ls (v.toList ++ rest))) : W p l e R s m args below meth c H locs cells slots Q (F0 m pc ls st0) := by
  have hrec := va_recv hK hP hc he
  have hpre := wr_pre (av := .ref b :: As) hK hN hZ hP hD hS is hC hnd its ht
  exact wr_call (va_runV (g := F0 m pc ls st0) S hM cw ⟨wr_blind, hrec, hpre⟩ rfl hn hsize hst (lv_room (ls := ls) (rest := rest) (pc := pc) (m := m) hW) hdg ⟨by omega, by omega⟩) hP hD hS is hC kk
theorem wr_callS (S : CallFix p m c cc nL s args Ts own) (hM : wr_M l y ws rm D w0 tys0 As post) (cw : CallB R s args own index y bytes maxL ret ws rm 0 0 n ∧ (Cond.static y).before args s = true) (hK : va_K D vwCl tys s) (hN : nw_ok s) (hZ : st_ok A0 s) (hP : va_P D vwCl w H) (hD : va_D A0 w) (hS : va_S A0 s.heap H locs)
    (is its : List Nat) (hC : is.map (fun i => w[i]?) = w0.map some) (hnd : va_nd is = true) (ht : its.filterMap (fun i => tys[i]?) = tys0)
    (hn : As.length = n) (hsize : ls.size = nL) (hst : st0 = As.reverse ++ rest) (hW : (rest.map fun v => v.category).sum ≤ 8) (hf : cells ≤ R.cells ∧ slots ≤ R.slots) (hdg : decode cc pc = .ok (.invokestatic index, 3))
    (kk : ∀ (v : Option Value) (w1 : va_W) (H1 : Heap) (locs1 : List Loc), post v w1 → va_P D vwCl (wr_set w is w1) H1 → va_D A0 (wr_set w is w1) → va_S A0 s.heap H1 locs1 → W p l e R s m args below meth c H1 locs1 cells slots Q (F0 m (pc + 3) ls (v.toList ++ rest))) : W p l e R s m args below meth c H locs cells slots Q (F0 m pc ls st0) := by
  have hpre := wr_pre (av := As) hK hN hZ hP hD hS is hC hnd its ht
  exact wr_call (va_runS (g := F0 m pc ls st0) S hM cw ⟨wr_blind, hpre⟩ rfl hn hsize hst (lv_room (ls := ls) (rest := rest) (pc := pc) (m := m) hW) hdg ⟨by omega, by omega⟩) hP hD hS is hC kk
/-- an int array's element is told anew, by a number -/
theorem wr_ast {a : Nat} {cA : ClassId} {N : Nat} {f : Nat → Int32} {i : Int32} {j : Nat} {x : Int32} {q0 t0 : Nat} (hexec : p.tables.exec = Jvm.exec) (hb : c.code = cc) (hK : va_K D vwCl tys s) (hP : va_P D vwCl w H) (hD : va_D A0 w) (hS : va_S A0 H0 H locs) (ha : w[q0]? = some (a, .inl (cA, N, .inl f))) (ht : tys[t0]? = some (cA, .int)) (hi : i = nI j) (hj : j < N) (hN : N < 2 ^ 31) (hdg : decode cc pc = .ok (.iastore, 1))
    (kk : ∀ (H1 : Heap) (locs1 : List Loc), va_P D vwCl (w.set q0 (a, .inl (cA, N, .inl (upd f j x)))) H1 → va_D A0 (w.set q0 (a, .inl (cA, N, .inl (upd f j x)))) → va_S A0 H0 H1 locs1 → W p l e R s m args below meth c H1 locs1 cells slots Q (F0 m (pc + 1) ls rest)) : W p l e R s m args below meth c H locs cells slots Q (F0 m pc ls (.int x :: .int i :: .ref a :: rest)) := by
  have e1 : i.toNatClampNeg = j := by rw [hi, nI_clamp (by omega)]
  refine va_iast hexec hb hK hP hD hS q0 t0 ha ht (by rw [hi]; exact vp_in_nI hj hN) hdg (fun H1 locs1 h1 h2 h3 => ?_)
  rw [e1] at h1 h2
  exact kk H1 locs1 h1 h2 h3
theorem wr_zst {a : Nat} {cA : ClassId} {N : Nat} {f : Nat → Int32} {i : Int32} {j : Nat} {x : Bool} {q0 t0 : Nat} (hexec : p.tables.exec = Jvm.exec) (hb : c.code = cc) (hK : va_K D vwCl tys s) (hP : va_P D vwCl w H) (hD : va_D A0 w) (hS : va_S A0 H0 H locs) (ha : w[q0]? = some (a, .inl (cA, N, .inl f))) (ht : tys[t0]? = some (cA, .boolean)) (hi : i = nI j) (hj : j < N) (hN : N < 2 ^ 31) (hdg : decode cc pc = .ok (.bastore, 1))
    (kk : ∀ (H1 : Heap) (locs1 : List Loc), va_P D vwCl (w.set q0 (a, .inl (cA, N, .inl (upd f j (bI x))))) H1 → va_D A0 (w.set q0 (a, .inl (cA, N, .inl (upd f j (bI x))))) → va_S A0 H0 H1 locs1 → W p l e R s m args below meth c H1 locs1 cells slots Q (F0 m (pc + 1) ls rest)) : W p l e R s m args below meth c H locs cells slots Q (F0 m pc ls (.int (bI x) :: .int i :: .ref a :: rest)) := by
  have e1 : i.toNatClampNeg = j := by rw [hi, nI_clamp (by omega)]
  have e2 : vp_nar .boolean (bI x) = bI x := by cases x <;> rfl
  refine va_zast hexec hb hK hP hD hS q0 t0 ha ht (by rw [hi]; exact vp_in_nI hj hN) hdg (fun H1 locs1 h1 h2 h3 => ?_)
  rw [e1, e2] at h1 h2
  exact kk H1 locs1 h1 h2 h3
end WRC
section WRE
variable {p : Program} {l : Launch} {e : Env} {ws : List Cond} {rm : Room} {s : State} {m : MethodId} {av : List Value} {below : List Frame} {meth : Method} {c : Code} {cc : ByteArray} {pc : Nat} {ls : Array Slot} {D : va_G} {w w' : va_W} {post : Option Value → va_W → Prop} {H : Heap} {locs : List Loc}
theorem wr_iret {v : Int32} (hexec : p.tables.exec = Jvm.exec) (hb : c.code = cc) (hr : meth.sig.returnType = some .int) (hlocks : meth.locks = false) (hP : va_P D vwCl w' H) (hS : va_S (wr_in w) s.heap H locs) (hf : w'.map (fun q => q.1) = w.map (fun q => q.1)) (hdg : decode cc pc = .ok (.ireturn, 1)) (hp : post (some (.int v)) w') : wr_W p l e ws rm s m av below meth c D w post H locs (F0 m pc ls [.int v]) :=
  W.iret hexec hb hr (fun t ht hW => ⟨⟨_, w', rfl, hp, hf, by rw [ht]; exact hP⟩, hS.F ht⟩) hS.2.2 hdg hlocks
theorem wr_zret {b : Bool} (hexec : p.tables.exec = Jvm.exec) (hb : c.code = cc) (hr : meth.sig.returnType = some .boolean) (hlocks : meth.locks = false) (hP : va_P D vwCl w' H) (hS : va_S (wr_in w) s.heap H locs) (hf : w'.map (fun q => q.1) = w.map (fun q => q.1)) (hdg : decode cc pc = .ok (.ireturn, 1)) (hp : post (some (.int (bI b))) w') : wr_W p l e ws rm s m av below meth c D w post H locs (F0 m pc ls [.int (bI b)]) :=
  W.zret hexec hb hr (bI_n b) (fun t ht hW => ⟨⟨_, w', rfl, hp, hf, by rw [ht]; exact hP⟩, hS.F ht⟩) hS.2.2 hdg hlocks
theorem wr_vret (hexec : p.tables.exec = Jvm.exec) (hb : c.code = cc) (hr : meth.sig.returnType = none) (hlocks : meth.locks = false) (hP : va_P D vwCl w' H) (hS : va_S (wr_in w) s.heap H locs) (hf : w'.map (fun q => q.1) = w.map (fun q => q.1)) (hdg : decode cc pc = .ok (.return_, 1)) (hp : post none w') : wr_W p l e ws rm s m av below meth c D w post H locs (F0 m pc ls []) :=
  W.vret hexec hb hr (fun t ht hW => ⟨⟨_, w', rfl, hp, hf, by rw [ht]; exact hP⟩, hS.F ht⟩) hS.2.2 hdg hlocks
theorem wr_lret {v : Int64} (hexec : p.tables.exec = Jvm.exec) (hb : c.code = cc) (hr : meth.sig.returnType = some .long) (hlocks : meth.locks = false) (hP : va_P D vwCl w' H) (hS : va_S (wr_in w) s.heap H locs) (hf : w'.map (fun q => q.1) = w.map (fun q => q.1)) (hdg : decode cc pc = .ok (.lreturn, 1)) (hp : post (some (.long v)) w') : wr_W p l e ws rm s m av below meth c D w post H locs (F0 m pc ls [.long v]) :=
  W.lret hexec hb hr (fun t ht hW => ⟨⟨_, w', rfl, hp, hf, by rw [ht]; exact hP⟩, hS.F ht⟩) hS.2.2 hdg hlocks
end WRE
section WRP
variable {p : Program} {l : Launch} {e : Env} {R : Room} {s : State} {m : MethodId} {args : Array Value} {below : List Frame} {meth : Method} {c : Code} {H H0 : Heap} {locs : List Loc} {cells slots : Nat} {Q : State → Prop}
variable {pc : Nat} {ls : Array Slot} {rest : List Value} {D : va_G} {w : va_W} {tys : List (ClassId × FieldType)} {A0 : Nat → Prop}
/-- System.arraycopy over int arrays, by numbers -/
theorem wr_copy {cc : ByteArray} {own : String} {index q0 q1 t0 : Nat} {a0 a : Nat} {cA : ClassId} {n0 n1 : Nat} {f g : Nat → Int32} {x y z : Int32} {sp dp k : Nat} (hexec : p.tables.exec = Jvm.exec) (hb : c.code = cc) (hml : c.maxLocals = ls.size) (hown : s.vm.findClass own = some m.cls) (hlink : (Cond.methodLink own index arraycopyName).before args s = true) (hnat : (Cond.native arraycopyName).before args s = true) (hstat : (Cond.static arraycopyName).before args s = true) (hini : (Cond.initialized "java/lang/System").before args s = true)
    (hK : va_K D vwCl tys s) (hP : va_P D vwCl w H) (hD : va_D A0 w) (hS : va_S A0 H0 H locs) (ha0 : w[q0]? = some (a0, .inl (cA, n0, .inl f))) (ha1 : w[q1]? = some (a, .inl (cA, n1, .inl g))) (ht : tys[t0]? = some (cA, .int))
    (hx : x = nI sp) (hy : y = nI dp) (hz : z = nI k) (h4 : sp + k ≤ n0) (h5 : dp + k ≤ n1) (hn0 : n0 < 2 ^ 31) (hn1 : n1 < 2 ^ 31)
    (hframes : 1 ≤ R.frames) (hlocals : 8 + (nativeFrameWords "java/lang/System" "arraycopy" 5 + 11) ≤ R.locals) (hdg : decode cc pc = .ok (.invokestatic index, 3)) (hrest : (rest.map fun v => v.category).sum ≤ 8)
    (kk : ∀ (H1 : Heap) (locs1 : List Loc), va_P D vwCl (w.set q1 (a, .inl (cA, n1, .inl (va_cpy f g sp dp k)))) H1 → va_D A0 (w.set q1 (a, .inl (cA, n1, .inl (va_cpy f g sp dp k)))) → va_S A0 H0 H1 locs1 → W p l e R s m args below meth c H1 locs1 cells slots Q (F0 m (pc + 3) ls rest)) : W p l e R s m args below meth c H locs cells slots Q (F0 m pc ls (.int z :: .int y :: .ref a :: .int x :: .ref a0 :: rest)) := by
  have e1 : x.toNatClampNeg = sp := by rw [hx, nI_clamp (by omega)]
  have e2 : y.toNatClampNeg = dp := by rw [hy, nI_clamp (by omega)]
  have e3 : z.toNatClampNeg = k := by rw [hz, nI_clamp (by omega)]
  refine va_copyi hexec hb hml hown hlink hnat hstat hini hK hP hD hS q0 q1 t0 t0 ha0 ha1 ht ht rfl (by rw [hx]; exact nI_pos (by omega)) (by rw [hy]; exact nI_pos (by omega)) (by rw [hz]; exact nI_pos (by omega)) (by rw [e1, e3]; exact h4) (by rw [e2, e3]; exact h5) (fun i _ => rfl) hframes (by omega) hdg (fun H1 locs1 h1 h2 h3 => ?_)
  rw [e1, e2, e3] at h1 h2
  exact kk H1 locs1 h1 h2 h3
end WRP
section WRB
variable {p : Program} {l : Launch} {e : Env} {R : Room} {s : State} {m : MethodId} {args : Array Value} {below : List Frame} {meth : Method} {c : Code} {H : Heap} {locs : List Loc} {cells slots : Nat} {Q : State → Prop}
variable {cc : ByteArray} {pc : Nat} {ls : Array Slot} {rest : List Value}
theorem rd_icmp_lt_n {a b : Nat} {off : Int} {tgt : Nat} (ha : a < 2 ^ 31) (hb2 : b < 2 ^ 31) (hexec : p.tables.exec = Jvm.exec) (hb : c.code = cc) (hdg : decode cc pc = .ok (.if_icmp .lt off, 3)) (ht : (pc : Int) + off = (tgt : Int))
    (kt : a < b → W p l e R s m args below meth c H locs cells slots Q (F0 m tgt ls rest)) (kf : b ≤ a → W p l e R s m args below meth c H locs cells slots Q (F0 m (pc + 3) ls rest)) : W p l e R s m args below meth c H locs cells slots Q (F0 m pc ls (.int (nI b) :: .int (nI a) :: rest)) :=
  lv_icmp_lt hexec hb hdg ht (fun h => kt ((nI_ltI ha hb2).mp h)) (fun h => kf (Nat.le_of_not_lt (fun q => h ((nI_ltI ha hb2).mpr q))))
theorem rd_icmp_gt_n {a b : Nat} {off : Int} {tgt : Nat} (ha : a < 2 ^ 31) (hb2 : b < 2 ^ 31) (hexec : p.tables.exec = Jvm.exec) (hb : c.code = cc) (hdg : decode cc pc = .ok (.if_icmp .gt off, 3)) (ht : (pc : Int) + off = (tgt : Int))
    (kt : b < a → W p l e R s m args below meth c H locs cells slots Q (F0 m tgt ls rest)) (kf : a ≤ b → W p l e R s m args below meth c H locs cells slots Q (F0 m (pc + 3) ls rest)) : W p l e R s m args below meth c H locs cells slots Q (F0 m pc ls (.int (nI b) :: .int (nI a) :: rest)) :=
  lv_icmp_gt hexec hb hdg ht (fun h => kt ((nI_ltI hb2 ha).mp h)) (fun h => kf (Nat.le_of_not_lt (fun q => h ((nI_ltI hb2 ha).mpr q))))
theorem rd_icmp_le_n {a b : Nat} {off : Int} {tgt : Nat} (ha : a < 2 ^ 31) (hb2 : b < 2 ^ 31) (hexec : p.tables.exec = Jvm.exec) (hb : c.code = cc) (hdg : decode cc pc = .ok (.if_icmp .le off, 3)) (ht : (pc : Int) + off = (tgt : Int))
    (kt : a ≤ b → W p l e R s m args below meth c H locs cells slots Q (F0 m tgt ls rest)) (kf : b < a → W p l e R s m args below meth c H locs cells slots Q (F0 m (pc + 3) ls rest)) : W p l e R s m args below meth c H locs cells slots Q (F0 m pc ls (.int (nI b) :: .int (nI a) :: rest)) :=
  lv_icmp_le hexec hb hdg ht (fun h => kt ((nI_leI ha hb2).mp h)) (fun h => kf (Nat.lt_of_not_le (fun q => h ((nI_leI ha hb2).mpr q))))
end WRB
