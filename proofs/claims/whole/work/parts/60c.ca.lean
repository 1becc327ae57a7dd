/-! CALLS WHERE THE CALLEE HAS THE WHOLE WORLD, OR A STRETCH OF IT: w = wa ++ w0 ++ wz -/
section WCA
variable {p : Program} {l : Launch} {e : Env} {R : Room} {s : State} {m : MethodId} {args : Array Value} {below : List Frame} {meth : Method} {c : Code} {H H0 : Heap} {locs : List Loc} {cells slots mc ms : Nat} {Q : State → Prop}
variable {cc : ByteArray} {pc : Nat} {ls : Array Slot} {rest st0 : List Value} {D : va_G} {w w0 wa wz : va_W} {tys tys0 : List (ClassId × FieldType)} {A0 : Nat → Prop}
variable {y : MethodName} {bytes : ByteArray} {maxL nL n index : Nat} {ret : Option FieldType} {ws : List Cond} {rm : Room} {Ts : List Cond} {own C : String} {b : Addr} {As : List Value} {post : Option Value → va_W → Prop} {px : String → va_W → Prop}
theorem wa_P {w : va_W} {H : Heap} : va_P D vwCl w H ↔ ∀ q ∈ w, ∀ k : Nat, w[k]? = some q → va_P D vwCl [q] H := by
  constructor
  · intro h q _ k hk j q2 hj
    cases j with
    | zero => cases hj; exact h k q hk
    | succ j => simp at hj
  · intro h k q hk
    exact h q (List.mem_of_getElem? hk) k hk 0 q rfl
theorem wa_P1 {q : Nat × va_E} {w : va_W} {H : Heap} (h : va_P D vwCl w H) (hq : q ∈ w) : va_P D vwCl [q] H := by
  obtain ⟨k, hk⟩ := List.mem_iff_getElem?.mp hq
  intro j q2 hj
  cases j with
  | zero => cases hj; exact h k q hk
  | succ j => simp at hj
theorem wa_PI {w : va_W} {H : Heap} (h : ∀ q ∈ w, va_P D vwCl [q] H) : va_P D vwCl w H := fun k q hk => h q (List.mem_of_getElem? hk) 0 q rfl
theorem wa_in {q : Nat} : wr_in w q ↔ q ∈ w.map (fun x => x.1) := by
  constructor
  · rintro ⟨k, e9, hk⟩
    exact List.mem_map.mpr ⟨(q, e9), List.mem_of_getElem? hk, rfl⟩
  · intro h
    obtain ⟨x, hx, e⟩ := List.mem_map.mp h
    obtain ⟨k, hk⟩ := List.mem_iff_getElem?.mp hx
    exact ⟨k, x.2, by rw [hk, ← e]⟩
theorem wa_join {w1 : va_W} {H1 : Heap} (hP : va_P D vwCl (wa ++ (w0 ++ wz)) H) (hD : va_D A0 (wa ++ (w0 ++ wz))) (hk : ∀ q : Nat, q < H.size → ¬ wr_in w0 q → H1[q]? = H[q]?) (hP1 : va_P D vwCl w1 H1) (hf : w1.map (fun q => q.1) = w0.map (fun q => q.1)) :
    va_P D vwCl (wa ++ (w1 ++ wz)) H1 ∧ va_D A0 (wa ++ (w1 ++ wz)) := by
  have hap : ∀ {i j : Nat} {x z : Nat × va_E}, (wa ++ (w0 ++ wz))[i]? = some x → (wa ++ (w0 ++ wz))[j]? = some z → x.1 = z.1 → i = j := fun h1 h2 h3 => hD.1 _ _ _ _ h1 h2 h3
  have out : ∀ (i : Nat) (x : Nat × va_E), (wa ++ (w0 ++ wz))[i]? = some x → ¬ (wa.length ≤ i ∧ i < wa.length + w0.length) → va_P D vwCl [x] H1 := by
    intro i x hx hi
    have h1 := hP i x hx
    have hlt := h1.lt
    have hno : ¬ wr_in w0 x.1 := by
      rintro ⟨k, e9, hk9⟩
      have hk2 : k < w0.length := (List.getElem?_eq_some_iff.mp hk9).1
      have h2 : (wa ++ (w0 ++ wz))[wa.length + k]? = some (x.1, e9) := by
        rw [List.getElem?_append_right (by omega), List.getElem?_append_left (by omega), show wa.length + k - wa.length = k by omega]
        exact hk9
      have := hap hx h2 rfl
      omega
    have hx1 : va_P D vwCl [x] H := wa_P1 hP (List.mem_of_getElem? hx)
    refine hx1.kept (fun k z hz => ?_)
    cases k with
    | zero => cases hz; exact hk x.1 hlt hno
    | succ k => simp at hz
  refine ⟨wa_PI (fun q hq => ?_), va_D_fst (w := wa ++ (w0 ++ wz)) (by simp only [List.map_append, hf]) hD⟩
  rcases List.mem_append.mp hq with h | h
  · obtain ⟨k, hk9⟩ := List.mem_iff_getElem?.mp h
    have hk2 : k < wa.length := (List.getElem?_eq_some_iff.mp hk9).1
    exact out k q (by rw [List.getElem?_append_left hk2]; exact hk9) (by omega)
  · rcases List.mem_append.mp h with h | h
    · exact wa_P1 hP1 h
    · obtain ⟨k, hk9⟩ := List.mem_iff_getElem?.mp h
      refine out (wa.length + (w0.length + k)) q ?_ (by omega)
      rw [List.getElem?_append_right (by omega), List.getElem?_append_right (by omega), show wa.length + (w0.length + k) - wa.length - w0.length = k by omega]
      exact hk9
theorem wa_A (hD : va_D A0 (wa ++ (w0 ++ wz))) : ∀ q : Nat, wr_in w0 q → A0 q := by
  rintro q ⟨k, e9, hk⟩
  have hk2 : k < w0.length := (List.getElem?_eq_some_iff.mp hk).1
  have h2 : (wa ++ (w0 ++ wz))[wa.length + k]? = some (q, e9) := by
    rw [List.getElem?_append_right (by omega), List.getElem?_append_left (by omega), show wa.length + k - wa.length = k by omega]
    exact hk
  exact hD.2 _ _ h2
theorem wa_D (hD : va_D A0 (wa ++ (w0 ++ wz))) : va_D (wr_in w0) w0 := by
  refine ⟨fun i j x z hi hj hxz => ?_, fun k q hk => ⟨k, q.2, hk⟩⟩
  have up : ∀ (k : Nat) (q : Nat × va_E), w0[k]? = some q → (wa ++ (w0 ++ wz))[wa.length + k]? = some q := by
    intro k q hk
    have hk2 : k < w0.length := (List.getElem?_eq_some_iff.mp hk).1
    rw [List.getElem?_append_right (by omega), List.getElem?_append_left (by omega), show wa.length + k - wa.length = k by omega]
    exact hk
  have := hD.1 _ _ _ _ (up i x hi) (up j z hj) hxz
  omega
theorem wa_sub (hP : va_P D vwCl (wa ++ (w0 ++ wz)) H) : va_P D vwCl w0 H := wa_PI (fun q hq => wa_P1 hP (List.mem_append_right _ (List.mem_append_left _ hq)))
theorem wa_pre (hK : va_K D vwCl tys s) (hN : nw_ok s) (hZ : st_ok A0 s) (hP : va_P D vwCl (wa ++ (w0 ++ wz)) H) (hD : va_D A0 (wa ++ (w0 ++ wz))) (hS : va_S A0 s.heap H locs) (its : List Nat) (ht : its.filterMap (fun i => tys[i]?) = tys0) {av : List Value} : ∀ U : State, U.heap = H → s.WarmedH U.vm → va_Pc av (wr_B D w0 tys0) av.toArray U := by
  intro U hU hW
  exact ⟨rfl, by rw [hU]; exact wa_sub hP, va_K.moved hW.alike (hK.sub its ht), hN.warm hW, wa_D hD, st_ok.kept (locs := locs) hW.alike (by rw [hU]; exact hS) (wa_A hD) hZ⟩
theorem wa_preX (hK : va_K D vwCl tys s) (hN : nw_ok s) (hZ : st_ok A0 s) (hT : th_ok A0 s) (hP : va_P D vwCl (wa ++ (w0 ++ wz)) H) (hD : va_D A0 (wa ++ (w0 ++ wz))) (hS : va_S A0 s.heap H locs) (its : List Nat) (ht : its.filterMap (fun i => tys[i]?) = tys0) {av : List Value} : ∀ U : State, U.heap = H → s.WarmedH U.vm → va_Pc av (wx_B D w0 tys0) av.toArray U := by
  intro U hU hW
  obtain ⟨a1, a2⟩ := wa_pre (av := av) hK hN hZ hP hD hS its ht U hU hW
  exact ⟨a1, a2, th_ok.kept (locs := locs) hW (by rw [hU]; exact hS) (wa_A hD) hT⟩
theorem wa_S {T' : State} {L : List Loc} (hD : va_D A0 (wa ++ (w0 ++ wz))) (hS : va_S A0 H0 H locs) (hL : ∀ q ∈ L, wr_in w0 q.base) (hz : H.size ≤ T'.heap.size) (hk : ∀ q : Nat, q < H.size → ¬ wr_in w0 q → T'.heap[q]? = H[q]?) : va_S A0 H0 T'.heap (locs ++ L) := by
  have hA := wa_A hD
  exact ⟨Nat.le_trans hS.1 hz, fun q h1 h2 => (hk q (Nat.lt_of_lt_of_le h1 hS.1) (fun z => h2 (hA q z))).trans (hS.2.1 q h1 h2), fun q hq => by
    rcases List.mem_append.mp hq with h | h
    · exact hS.2.2 q h
    · exact hA _ (hL q h)⟩
theorem wa_call {a : Array Value} (hr : va_Run p l e R s m args below meth c H locs cells slots mc ms (F0 m pc ls st0) rest (wr_Q D w0 post a) (wr_in w0)) (hP : va_P D vwCl (wa ++ (w0 ++ wz)) H) (hD : va_D A0 (wa ++ (w0 ++ wz))) (hS : va_S A0 H0 H locs)
    (kk : ∀ (v : Option Value) (w1 : va_W) (H1 : Heap) (locs1 : List Loc), post v w1 → va_P D vwCl (wa ++ (w1 ++ wz)) H1 → va_D A0 (wa ++ (w1 ++ wz)) → va_S A0 H0 H1 locs1 → W p l e R s m args below meth c H1 locs1 (cells + mc) (slots + ms) Q (F0 m (pc + 3) ls (v.toList ++ rest))) : W p l e R s m args below meth c H locs cells slots Q (F0 m pc ls st0) := by
  intro T hT X
  obtain ⟨v, st₀, t, T', L, h0, X', hL, e1, e2, ⟨⟨v', w1, hv, hp, hm, hb⟩, hz, hk⟩, st⟩ := hr T hT X
  cases hv
  rw [h0] at hz hk
  rw [← e1] at hz hk hb
  obtain ⟨P1, D1⟩ := wa_join hP hD hk hb hm
  obtain ⟨t2, a1, b1⟩ := kk v w1 T'.heap (locs ++ L) hp P1 D1 (wa_S hD hS hL hz hk) T' rfl X'
  exact ⟨t2, st t2 a1, b1⟩
theorem wa_callX {a : Array Value} (hr : vx_Run p l e R s m args below meth c H locs cells slots mc ms (F0 m pc ls st0) rest (wr_Q D w0 post a) (wx_X D w0 px) (wr_in w0)) (hP : va_P D vwCl (wa ++ (w0 ++ wz)) H) (hD : va_D A0 (wa ++ (w0 ++ wz))) (hS : va_S A0 H0 H locs)
    (kx : ∀ (E : String) (ce : Cell) (q9 : Addr) (w1 : va_W) (H1 : Heap) (locs1 : List Loc), px E w1 → va_P D vwCl (wa ++ (w1 ++ wz)) H1 → va_D A0 (wa ++ (w1 ++ wz)) → va_S A0 H0 H1 locs1 → H1[q9]? = some ce → ce.vm = .none → s.vm.findClass E = some ce.cls → vx_W p l e R s m args below meth c H1 locs1 (cells + mc) (slots + ms) Q (F0 m pc ls rest) q9)
    (kk : ∀ (v : Option Value) (w1 : va_W) (H1 : Heap) (locs1 : List Loc), post v w1 → va_P D vwCl (wa ++ (w1 ++ wz)) H1 → va_D A0 (wa ++ (w1 ++ wz)) → va_S A0 H0 H1 locs1 → W p l e R s m args below meth c H1 locs1 (cells + mc) (slots + ms) Q (F0 m (pc + 3) ls (v.toList ++ rest))) : W p l e R s m args below meth c H locs cells slots Q (F0 m pc ls st0) := by
  intro T hT X
  rcases hr T hT X with ⟨v, st₀, t, T', L, h0, X', hL, e1, e2, ⟨⟨v', w1, hv, hp, hm, hb⟩, hz, hk⟩, st⟩ | ⟨q, st₀, t, T', L, E, ce, h0, X', hL, e1, e2, ⟨⟨w1, hp, hm, hb⟩, hz, hk⟩, hce, hcv, hcl, st⟩
  · cases hv
    rw [h0] at hz hk
    rw [← e1] at hz hk hb
    obtain ⟨P1, D1⟩ := wa_join hP hD hk hb hm
    obtain ⟨t2, a1, b1⟩ := kk v w1 T'.heap (locs ++ L) hp P1 D1 (wa_S hD hS hL hz hk) T' rfl X'
    exact ⟨t2, st t2 a1, b1⟩
  · rw [h0] at hz hk
    rw [← e1] at hz hk hb hce
    obtain ⟨P1, D1⟩ := wa_join hP hD hk hb hm
    obtain ⟨t2, a1, b1⟩ := kx E ce q w1 T'.heap (locs ++ L) hp P1 D1 (wa_S hD hS hL hz hk) hce hcv hcl T' rfl X'
    exact ⟨t2, st.trans a1, b1⟩
/-- an object's method over the whole world -/
theorem wr_callVF {q0 ci N : Nat} {fs : List Value} {T : u_T} (S : CallFix p m c cc nL s args Ts own) (hM : wr_M l y ws rm D w tys (.ref b :: As) post) (cw : CallW R s args own C index y bytes maxL ret ws rm 0 0 n) (hK : va_K D vwCl tys s) (hN : nw_ok s) (hZ : st_ok A0 s) (hP : va_P D vwCl w H) (hD : va_D A0 w) (hS : va_S A0 s.heap H locs)
    (he : w[q0]? = some (b, .inr (ci, fs))) (hc : vwCl[ci]? = some (C, T, N)) (hn : As.length = n) (hsize : ls.size = nL) (hst : st0 = As.reverse ++ .ref b :: rest) (hW : (rest.map fun v => v.category).sum ≤ 8) (hf : cells ≤ R.cells ∧ slots ≤ R.slots) (hdg : decode cc pc = .ok (.invokevirtual index, 3))
    (kk : ∀ (v : Option Value) (w1 : va_W) (H1 : Heap) (locs1 : List Loc), post v w1 → va_P D vwCl w1 H1 → va_D A0 w1 → va_S A0 s.heap H1 locs1 → W p l e R s m args below meth c H1 locs1 cells slots Q (F0 m (pc + 3) ls (v.toList ++ rest))) : W p l e R s m args below meth c H locs cells slots Q (F0 m pc ls st0) := by
  have hrec := va_recv hK hP hc he
  have e0 : ∀ x : va_W, ([] : va_W) ++ (x ++ []) = x := fun x => List.append_nil x
  have hP' : va_P D vwCl ([] ++ (w ++ [])) H := by rw [e0]; exact hP
  have hD' : va_D A0 ([] ++ (w ++ [])) := by rw [e0]; exact hD
  have hpre := wa_pre (av := .ref b :: As) (its := List.range tys.length) (tys0 := tys) hK hN hZ hP' hD' hS (by
    apply List.ext_getElem?
    intro i
    have : ∀ (t : List (ClassId × FieldType)), (List.range t.length).filterMap (fun i => t[i]?) = t := by
      intro t
      induction t with
      | nil => rfl
      | cons x t ih =>
        rw [List.length_cons, List.range_succ_eq_map, List.filterMap_cons]
        simp only [List.getElem?_cons_zero, List.filterMap_map]
        congr 1
    rw [this])
  refine wa_call (va_runV (g := F0 m pc ls st0) S hM cw ⟨wr_blind, hrec, hpre⟩ rfl hn hsize hst (lv_room (ls := ls) (rest := rest) (pc := pc) (m := m) hW) hdg ⟨by omega, by omega⟩) hP' hD' hS (fun v w1 H1 locs1 h1 h2 h3 h4 => ?_)
  rw [e0] at h2 h3
  exact kk v w1 H1 locs1 h1 h2 h3 h4
end WCA
