/-! THE LAW: CALLS, CASES, LOOP -/
section LAWC
variable {p : Program} {l : Launch} {e : Env} {R : Room} {s : State} {m : MethodId} {args : Array Value} {below : List Frame} {meth : Method} {c : Code} {H H0 : Heap} {locs : List Loc} {cells slots : Nat} {Q : State → Prop}
variable {cc : ByteArray} {pc : Nat} {ls : Array Slot} {rest st0 : List Value} {D : va_G} {wc wm : va_W} {tys tys0 : List (ClassId × FieldType)} {A0 : Nat → Prop} {cJ : ClassId} {ol : Nat} {g : Nat → Int64}
variable {y : MethodName} {bytes : ByteArray} {maxL nL n index : Nat} {ret : Option FieldType} {ws : List Cond} {rm : Room} {Ts : List Cond} {own C : String} {b : Addr} {As : List Value} {post : Option Value → va_W → Prop}
theorem lv_lcmp_eq (hexec : p.tables.exec = Jvm.exec) (hb : c.code = cc) {x y : Int64} (he : x = y) (hdg : decode cc pc = .ok (.lcmp, 1))
    (k : W p l e R s m args below meth c H locs cells slots Q (F0 m (pc + 1) ls (.int 0 :: rest))) : W p l e R s m args below meth c H locs cells slots Q (F0 m pc ls (.long y :: .long x :: rest)) := by
  subst he
  intro T hT X
  obtain ⟨t, a, b⟩ := k T hT X
  refine ⟨t, ?_, b⟩
  have h0 : ¬ x < x := fun h => by have h2 := Int64.lt_iff_toInt_lt.mp h; omega
  jvm_step X.here [X.here.top, hexec, hb, hdg, h0]
  exact a
/-- the world of the law: the class's, the cell that takes answers, the reference's -/
abbrev Wl (wc : va_W) (cJ : ClassId) (ol : Nat) (g : Nat → Int64) (wm : va_W) : va_W := (wc ++ [(ol, LgE cJ g)]) ++ (wm ++ [])
theorem wl_C {wc : va_W} {cJ : ClassId} {ol : Nat} {g : Nat → Int64} {wm : va_W} : Wl wc cJ ol g wm = [] ++ (wc ++ ([(ol, LgE cJ g)] ++ (wm ++ []))) := by simp
/-- a static method of the law -/
theorem lc_L {hh : List (Nat × Nat × Nat × Nat)} (S : CallFix p m c cc nL s args Ts own) (hM : wc_M l y ws rm D (wc ++ [(ol, LgE cJ g)]) tys0 As post) (cw : vx_CSW R s args own index y bytes maxL ret hh ws rm 1 6 n) (hK : va_K D vwCl tys s) (hN : nw_ok s) (hZ : st_ok A0 s) (hT : th_ok A0 s) (hP : va_P D vwCl (Wl wc cJ ol g wm) H) (hD : va_D A0 (Wl wc cJ ol g wm)) (hS : va_S A0 s.heap H locs)
    (its : List Nat) (ht : its.filterMap (fun i => tys[i]?) = tys0) (hn : As.length = n) (hsize : ls.size = nL) (hst : st0 = As.reverse ++ rest) (hW : (rest.map fun v => v.category).sum ≤ 8) (hf : cells + 1 ≤ R.cells ∧ slots + 6 ≤ R.slots) (hdg : decode cc pc = .ok (.invokestatic index, 3))
    (kk : ∀ (v : Option Value) (w1 : va_W) (H1 : Heap) (locs1 : List Loc), post v w1 → va_P D vwCl (w1 ++ (wm ++ [])) H1 → va_D A0 (w1 ++ (wm ++ [])) → va_S A0 s.heap H1 locs1 → W p l e R s m args below meth c H1 locs1 (cells + 1) (slots + 6) Q (F0 m (pc + 3) ls (v.toList ++ rest))) : W p l e R s m args below meth c H locs cells slots Q (F0 m pc ls st0) := by
  have hpre := wa_preX (wa := []) (av := As) hK hN hZ hT hP hD hS its ht
  exact wa_call (wa := []) (vx_runSW (g := F0 m pc ls st0) S hM cw ⟨wx_blind, hpre⟩ rfl hn hsize hst (lv_room (ls := ls) (rest := rest) (pc := pc) (m := m) hW) hdg hf) hP hD hS kk
/-- a method of the reference -/
theorem lc_M {q0 ci N : Nat} {fs : List Value} {T : u_T} (S : CallFix p m c cc nL s args Ts own) (hM : wr_M l y ws rm D wm tys0 (.ref b :: As) post) (cw : CallW R s args own C index y bytes maxL ret ws rm 0 0 n) (hK : va_K D vwCl tys s) (hN : nw_ok s) (hZ : st_ok A0 s) (hP : va_P D vwCl (Wl wc cJ ol g wm) H) (hD : va_D A0 (Wl wc cJ ol g wm)) (hS : va_S A0 s.heap H locs)
    (its : List Nat) (ht : its.filterMap (fun i => tys[i]?) = tys0) (he : wm[q0]? = some (b, .inr (ci, fs))) (hc : vwCl[ci]? = some (C, T, N)) (hn : As.length = n) (hsize : ls.size = nL) (hst : st0 = As.reverse ++ .ref b :: rest) (hW : (rest.map fun v => v.category).sum ≤ 8) (hf : cells ≤ R.cells ∧ slots ≤ R.slots) (hdg : decode cc pc = .ok (.invokevirtual index, 3))
    (kk : ∀ (v : Option Value) (w1 : va_W) (H1 : Heap) (locs1 : List Loc), post v w1 → va_P D vwCl (Wl wc cJ ol g w1) H1 → va_D A0 (Wl wc cJ ol g w1) → va_S A0 s.heap H1 locs1 → W p l e R s m args below meth c H1 locs1 cells slots Q (F0 m (pc + 3) ls (v.toList ++ rest))) : W p l e R s m args below meth c H locs cells slots Q (F0 m pc ls st0) := by
  have hrec := va_recv hK (wa_sub hP) hc he
  have hpre := wa_pre (av := .ref b :: As) hK hN hZ hP hD hS its ht
  exact wa_call (va_runV (g := F0 m pc ls st0) S hM cw ⟨wr_blind, hrec, hpre⟩ rfl hn hsize hst (lv_room (ls := ls) (rest := rest) (pc := pc) (m := m) hW) hdg ⟨by omega, by omega⟩) hP hD hS kk
/-- a method of the class that does not throw -/
theorem lc_C {q0 ci N : Nat} {fs : List Value} {T : u_T} (S : CallFix p m c cc nL s args Ts own) (hM : wr_M l y ws rm D wc tys0 (.ref b :: As) post) (cw : CallW R s args own C index y bytes maxL ret ws rm 0 0 n) (hK : va_K D vwCl tys s) (hN : nw_ok s) (hZ : st_ok A0 s) (hP : va_P D vwCl (Wl wc cJ ol g wm) H) (hD : va_D A0 (Wl wc cJ ol g wm)) (hS : va_S A0 s.heap H locs)
    (its : List Nat) (ht : its.filterMap (fun i => tys[i]?) = tys0) (he : wc[q0]? = some (b, .inr (ci, fs))) (hc : vwCl[ci]? = some (C, T, N)) (hn : As.length = n) (hsize : ls.size = nL) (hst : st0 = As.reverse ++ .ref b :: rest) (hW : (rest.map fun v => v.category).sum ≤ 8) (hf : cells ≤ R.cells ∧ slots ≤ R.slots) (hdg : decode cc pc = .ok (.invokevirtual index, 3))
    (kk : ∀ (v : Option Value) (w1 : va_W) (H1 : Heap) (locs1 : List Loc), post v w1 → va_P D vwCl (Wl w1 cJ ol g wm) H1 → va_D A0 (Wl w1 cJ ol g wm) → va_S A0 s.heap H1 locs1 → W p l e R s m args below meth c H1 locs1 cells slots Q (F0 m (pc + 3) ls (v.toList ++ rest))) : W p l e R s m args below meth c H locs cells slots Q (F0 m pc ls st0) := by
  rw [wl_C] at hP hD
  have hrec := va_recv hK (wa_sub hP) hc he
  have hpre := wa_pre (av := .ref b :: As) hK hN hZ hP hD hS its ht
  refine wa_call (va_runV (g := F0 m pc ls st0) S hM cw ⟨wr_blind, hrec, hpre⟩ rfl hn hsize hst (lv_room (ls := ls) (rest := rest) (pc := pc) (m := m) hW) hdg ⟨by omega, by omega⟩) hP hD hS (fun v w1 H1 locs1 h1 h2 h3 h4 => ?_)
  rw [← wl_C] at h2 h3
  exact kk v w1 H1 locs1 h1 h2 h3 h4
/-- the answer's cell read -/
theorem lc_ld (hexec : p.tables.exec = Jvm.exec) (hb : c.code = cc) (hK : va_K D vwCl tys s) (hP : va_P D vwCl (Wl wc cJ ol g wm) H) (t0 : Nat) (ht : tys[t0]? = some (cJ, .long)) (hdg : decode cc pc = .ok (.laload, 1))
    (kk : W p l e R s m args below meth c H locs cells slots Q (F0 m (pc + 1) ls (.long (g 0) :: rest))) : W p l e R s m args below meth c H locs cells slots Q (F0 m pc ls (.int 0 :: .ref ol :: rest)) := by
  have hP1 : va_P D vwCl [(ol, LgE cJ g)] H := wa_P1 hP (List.mem_append_left _ (List.mem_append_right _ (List.mem_cons_self ..)))
  refine va_lald hexec hb hK hP1 0 t0 rfl ht in01 hdg ?_
  have e0 : (0 : Int32).toNatClampNeg = 0 := by decide
  rw [e0]
  exact kk
end LAWC
def LcF (p : Program) (l : Launch) (s : State) (m : MethodId) (c : Code) (b L : Nat) (xs : Nat → Int32) (D : va_G) (cI cZ cJ : ClassId) : Prop := l.stackTraces = false ∧ p.tables.exec = Jvm.exec ∧ c.code = cL_law ∧ c.maxLocals = 9 ∧ s.vm.findClass RL = some m.cls ∧ (∀ w ∈ wsL_law, w.before #[Value.ref b] s = true) ∧ va_X b L xs s s.heap ∧ b < s.heap.size ∧ va_K D vwCl [(cI, .int), (cZ, .boolean), (cJ, .long)] s ∧ nw_ok s ∧ st_ok (fun q : Nat => s.heap.size ≤ q) s ∧ th_ok (fun q : Nat => s.heap.size ≤ q) s
set_option maxHeartbeats 2000000 in
set_option maxRecDepth 100000 in
theorem law_0 {p : Program} {l : Launch} {e : Env} {s : State} {m : MethodId} {below : List Frame} {meth : Method} {c : Code} {b L : Nat} {xs : Nat → Int32} {D : va_G} {ox op xO xW xN xC xA xM xG xT xH xR xF xB xX ob oc oh hc hp ot yc yt ol om uS uV uB uT uA uP uR : Nat} {cI cZ cJ : ClassId} {Q : State → Prop} (F : LcF p l s m c b L xs D cI cZ cJ) {i : Nat} (hi : i + 6 ≤ L) (hL : L ≤ 3072) {A : AS} {t : Int32} {wc wm : va_W} {g : Nat → Int64} (hA : aOK A) (hC : ClP ox op xO xW xN xC xA xM xG xT xH xR xF xB xX ob oc oh hc hp ot yc yt cI cZ A wc) (hM : MdP om uS uV uB uT uA uP uR cI t A wm) {H : Heap} {locs : List Loc} {ls : Array Slot} (hP : va_P D vwCl (Wl wc cJ ol g wm) H) (hD : va_D (fun q : Nat => s.heap.size ≤ q) (Wl wc cJ ol g wm)) (hS : va_S (fun q : Nat => s.heap.size ≤ q) s.heap H locs) (hl : lv_has ls 9 [(4, .int (nI i)), (3, .ref ol), (2, .ref om), (1, .ref ox), (0, .ref b)]) {cells slots : Nat} (hc1 : cells + 1 ≤ 601181) (hs1 : slots + 6 ≤ 7292561) (kk : ∀ (A9 : AS) (t9 : Int32) (wc9 wm9 : va_W) (g9 : Nat → Int64) (H9 : Heap) (locs9 : List Loc) (ls9 : Array Slot), aOK A9 → ClP ox op xO xW xN xC xA xM xG xT xH xR xF xB xX ob oc oh hc hp ot yc yt cI cZ A9 wc9 → MdP om uS uV uB uT uA uP uR cI t9 A9 wm9 → va_P D vwCl (Wl wc9 cJ ol g9 wm9) H9 → va_D (fun q : Nat => s.heap.size ≤ q) (Wl wc9 cJ ol g9 wm9) → va_S (fun q : Nat => s.heap.size ≤ q) s.heap H9 locs9 → lv_has ls9 9 [(4, .int (nI i)), (3, .ref ol), (2, .ref om), (1, .ref ox), (0, .ref b)] → W p l e room_1 s m #[Value.ref b] below meth c H9 locs9 (cells + 1) (slots + 6) Q (F0 m 1373 ls9 [])) : W p l e room_1 s m #[Value.ref b] below meth c H locs cells slots Q (F0 m 156 ls []) := by
  obtain ⟨hfl, hx, hb, hml, hown, hts, hX, hbl, hK, hN, hZ, hT⟩ := F
  have hbA : ¬ (fun q : Nat => s.heap.size ≤ q) b := Nat.not_le.mpr hbl
  refine lv_aload_n hx hb dL_law_156 rfl (lv_at hl 3 rfl) ?_
  refine lv_aload_n hx hb dL_law_157 rfl (lv_at hl 4 rfl) ?_
  refine lv_iload hx hb dL_law_158 (lv_at hl 0 rfl) ?_
  refine lv_iconst (v := 1) hx hb dL_law_160 (by decide) ?_
  refine lv_iadd hx hb dL_law_161 ?_
  refine lv_asi (y := nI (i + 1)) (nI_add i 1) ?_
  refine va_sld hx hb hX hbl hbA hS (vp_in_nI (by omega) (by omega)) dL_law_162 ?_
  refine lv_aload_n hx hb dL_law_163 rfl (lv_at hl 4 rfl) ?_
  refine lv_iload hx hb dL_law_164 (lv_at hl 0 rfl) ?_
  refine lv_iconst (v := 2) hx hb dL_law_166 (by decide) ?_
  refine lv_iadd hx hb dL_law_167 ?_
  refine lv_asi (y := nI (i + 2)) (nI_add i 2) ?_
  refine va_sld hx hb hX hbl hbA hS (vp_in_nI (by omega) (by omega)) dL_law_168 ?_
  refine lv_aload_n hx hb dL_law_169 rfl (lv_at hl 4 rfl) ?_
  refine lv_iload hx hb dL_law_170 (lv_at hl 0 rfl) ?_
  refine lv_iconst (v := 3) hx hb dL_law_172 (by decide) ?_
  refine lv_iadd hx hb dL_law_173 ?_
  refine lv_asi (y := nI (i + 3)) (nI_add i 3) ?_
  refine va_sld hx hb hX hbl hbA hS (vp_in_nI (by omega) (by omega)) dL_law_174 ?_
  refine lv_aload_n hx hb dL_law_175 rfl (lv_at hl 4 rfl) ?_
  refine lv_iload hx hb dL_law_176 (lv_at hl 0 rfl) ?_
  refine lv_iconst (v := 4) hx hb dL_law_178 (by decide) ?_
  refine lv_iadd hx hb dL_law_179 ?_
  refine lv_asi (y := nI (i + 4)) (nI_add i 4) ?_
  refine va_sld hx hb hX hbl hbA hS (vp_in_nI (by omega) (by omega)) dL_law_180 ?_
  refine lv_aload_n hx hb dL_law_181 rfl (lv_at hl 4 rfl) ?_
  refine lv_iload hx hb dL_law_182 (lv_at hl 0 rfl) ?_
  refine lv_iconst (v := 5) hx hb dL_law_184 (by decide) ?_
  refine lv_iadd hx hb dL_law_185 ?_
  refine lv_asi (y := nI (i + 5)) (nI_add i 5) ?_
  refine va_sld hx hb hX hbl hbA hS (vp_in_nI (by omega) (by omega)) dL_law_186 ?_
  refine lv_aload_n hx hb dL_law_187 rfl (lv_at hl 1 rfl) ?_
  refine lc_L (As := [.ref ox, .int (xs (nI (i + 1)).toNatClampNeg), .int (xs (nI (i + 2)).toNatClampNeg), .int (xs (nI (i + 3)).toNatClampNeg), .int (xs (nI (i + 4)).toNatClampNeg), .int (xs (nI (i + 5)).toNatClampNeg), .ref ol]) (rest := []) ⟨hx, hb, hml, hown, hts⟩ (k_L_add l hfl D hA hC (xs (nI (i + 1)).toNatClampNeg) (xs (nI (i + 2)).toNatClampNeg) (xs (nI (i + 3)).toNatClampNeg) (xs (nI (i + 4)).toNatClampNeg) (xs (nI (i + 5)).toNatClampNeg)) (vx_cwSW 7 hts gL_law_L_add rfl rfl rfl (by decide +kernel) ⟨by decide, by decide⟩) hK hN hZ hT hP hD hS [0, 1, 2] rfl rfl hl.1 rfl (Nat.le_of_ble_eq_true rfl) ⟨hc1, hs1⟩ dL_law_188 (fun v9 w9 H locs hp9 hP hD hS => ?_)
  obtain ⟨kL, rL, AL, gL, wcL, rfl, hspL, hgL, hCL, rfl⟩ := hp9
  have hP : va_P D vwCl (Wl wcL cJ ol gL wm) H := hP
  have hD : va_D (fun q : Nat => s.heap.size ≤ q) (Wl wcL cJ ol gL wm) := hD
  refine W.eq (g2 := F0 m 191 ls [.int kL]) rfl ?_
  refine lv_istore (lv' := [(5, .int kL), (4, .int (nI i)), (3, .ref ol), (2, .ref om), (1, .ref ox), (0, .ref b)]) hx hb dL_law_191 hl (by decide) rfl (fun ls hl => ?_)
  refine lv_aload_n hx hb dL_law_193 rfl (lv_at hl 3 rfl) ?_
  refine lv_aload_n hx hb dL_law_194 rfl (lv_at hl 5 rfl) ?_
  refine lv_iload hx hb dL_law_195 (lv_at hl 1 rfl) ?_
  refine lv_iconst (v := 1) hx hb dL_law_197 (by decide) ?_
  refine lv_iadd hx hb dL_law_198 ?_
  refine lv_asi (y := nI (i + 1)) (nI_add i 1) ?_
  refine va_sld hx hb hX hbl hbA hS (vp_in_nI (by omega) (by omega)) dL_law_199 ?_
  refine lv_aload_n hx hb dL_law_200 rfl (lv_at hl 5 rfl) ?_
  refine lv_iload hx hb dL_law_201 (lv_at hl 1 rfl) ?_
  refine lv_iconst (v := 2) hx hb dL_law_203 (by decide) ?_
  refine lv_iadd hx hb dL_law_204 ?_
  refine lv_asi (y := nI (i + 2)) (nI_add i 2) ?_
  refine va_sld hx hb hX hbl hbA hS (vp_in_nI (by omega) (by omega)) dL_law_205 ?_
  refine lv_aload_n hx hb dL_law_206 rfl (lv_at hl 5 rfl) ?_
  refine lv_iload hx hb dL_law_207 (lv_at hl 1 rfl) ?_
  refine lv_iconst (v := 3) hx hb dL_law_209 (by decide) ?_
  refine lv_iadd hx hb dL_law_210 ?_
  refine lv_asi (y := nI (i + 3)) (nI_add i 3) ?_
  refine va_sld hx hb hX hbl hbA hS (vp_in_nI (by omega) (by omega)) dL_law_211 ?_
  refine lv_aload_n hx hb dL_law_212 rfl (lv_at hl 5 rfl) ?_
  refine lv_iload hx hb dL_law_213 (lv_at hl 1 rfl) ?_
  refine lv_iconst (v := 4) hx hb dL_law_215 (by decide) ?_
  refine lv_iadd hx hb dL_law_216 ?_
  refine lv_asi (y := nI (i + 4)) (nI_add i 4) ?_
  refine va_sld hx hb hX hbl hbA hS (vp_in_nI (by omega) (by omega)) dL_law_217 ?_
  refine lv_aload_n hx hb dL_law_218 rfl (lv_at hl 5 rfl) ?_
  refine lv_iload hx hb dL_law_219 (lv_at hl 1 rfl) ?_
  refine lv_iconst (v := 5) hx hb dL_law_221 (by decide) ?_
  refine lv_iadd hx hb dL_law_222 ?_
  refine lv_asi (y := nI (i + 5)) (nI_add i 5) ?_
  refine va_sld hx hb hX hbl hbA hS (vp_in_nI (by omega) (by omega)) dL_law_223 ?_
  obtain ⟨fsm, hrm⟩ := mdP_rec hM
  refine lc_M (As := [.int (xs (nI (i + 1)).toNatClampNeg), .int (xs (nI (i + 2)).toNatClampNeg), .int (xs (nI (i + 3)).toNatClampNeg), .int (xs (nI (i + 4)).toNatClampNeg), .int (xs (nI (i + 5)).toNatClampNeg)]) (rest := []) ⟨hx, hb, hml, hown, hts⟩ (k_X5_add l D hA hM (xs (nI (i + 1)).toNatClampNeg) (xs (nI (i + 2)).toNatClampNeg) (xs (nI (i + 3)).toNatClampNeg) (xs (nI (i + 4)).toNatClampNeg) (xs (nI (i + 5)).toNatClampNeg)) (cwV 5 hts gL_law_X5_add rfl rfl rfl (by decide +kernel) ⟨by decide, by decide⟩) hK hN hZ hP hD hS [0] rfl hrm rfl rfl hl.1 rfl (Nat.le_of_ble_eq_true rfl) ⟨by show _ ≤ 601181; omega, by show _ ≤ 7292561; omega⟩ dL_law_224 (fun v9 w9 H locs hp9 hP hD hS => ?_)
  obtain ⟨tM, rM, AM, rfl, hspM, hMM⟩ := hp9
  obtain ⟨rfl, rfl, rfl⟩ : kL = tM ∧ rL = rM ∧ AL = AM := by have h9 := hspL.symm.trans hspM; simp only [Prod.mk.injEq] at h9; exact h9
  have hA9 : aOK AL := by have h9 : aOK (spAdd A (xs (nI (i + 1)).toNatClampNeg) (xs (nI (i + 2)).toNatClampNeg) (xs (nI (i + 3)).toNatClampNeg) (xs (nI (i + 4)).toNatClampNeg) (xs (nI (i + 5)).toNatClampNeg)).2.2 := ok_add hA; rw [hspL] at h9; exact h9
  refine W.eq (g2 := F0 m 227 ls [.int rL]) rfl ?_
  refine lv_istore (lv' := [(6, .int rL), (5, .int kL), (4, .int (nI i)), (3, .ref ol), (2, .ref om), (1, .ref ox), (0, .ref b)]) hx hb dL_law_227 hl (by decide) rfl (fun ls hl => ?_)
  refine lv_aload_n hx hb dL_law_229 rfl (lv_at hl 4 rfl) ?_
  obtain ⟨fsm, hrm⟩ := mdP_rec hMM
  refine lc_M (As := []) (rest := []) ⟨hx, hb, hml, hown, hts⟩ (k_X5_thrown l D hMM) (cwV 0 hts gL_law_X5_thrown rfl rfl rfl (by decide +kernel) ⟨by decide, by decide⟩) hK hN hZ hP hD hS [0] rfl hrm rfl rfl hl.1 rfl (Nat.le_of_ble_eq_true rfl) ⟨by show _ ≤ 601181; omega, by show _ ≤ 7292561; omega⟩ dL_law_230 (fun v9 w9 H locs hp9 hP hD hS => ?_)
  obtain ⟨rfl, hMT⟩ := hp9
  refine W.eq (g2 := F0 m 233 ls [.int kL]) rfl ?_
  refine lv_iload hx hb dL_law_233 (lv_at hl 1 rfl) ?_
  refine lv_icmp_eq (tgt := 240) hx hb dL_law_235 (by decide) (fun _ => ?_) (fun hne => absurd rfl hne)
  refine lv_iload hx hb dL_law_240 (lv_at hl 1 rfl) ?_
  refine lv_if_ne (tgt := 257) hx hb dL_law_242 (by decide) (fun _ => ?_) (fun hk0 => ?_)
  · refine lv_goto (tgt := 1373) hx hb dL_law_257 (by decide) ?_
    exact kk AL kL wcL w9 gL H locs ls hA9 hCL hMT hP hD hS (lv_sub hl [2, 3, 4, 5, 6] rfl)
  · refine lv_aload_n hx hb dL_law_245 rfl (lv_at hl 3 rfl) ?_
    refine lv_iconst (v := 0) hx hb dL_law_246 (by decide) ?_
    refine lc_ld hx hb hK hP 2 rfl dL_law_247 ?_
    refine lv_iload hx hb dL_law_248 (lv_at hl 0 rfl) ?_
    refine lv_i2l (v := (rL : Int32).toInt64) hx hb dL_law_250 rfl ?_
    refine lv_lcmp_eq hx hb (hgL hk0) dL_law_251 ?_
    refine lv_if_eq (tgt := 257) hx hb dL_law_252 (by decide) (fun _ => ?_) (fun hne => absurd rfl hne)
    refine lv_goto (tgt := 1373) hx hb dL_law_257 (by decide) ?_
    exact kk AL kL wcL w9 gL H locs ls hA9 hCL hMT hP hD hS (lv_sub hl [2, 3, 4, 5, 6] rfl)
set_option maxHeartbeats 2000000 in
set_option maxRecDepth 100000 in
theorem law_1 {p : Program} {l : Launch} {e : Env} {s : State} {m : MethodId} {below : List Frame} {meth : Method} {c : Code} {b L : Nat} {xs : Nat → Int32} {D : va_G} {ox op xO xW xN xC xA xM xG xT xH xR xF xB xX ob oc oh hc hp ot yc yt ol om uS uV uB uT uA uP uR : Nat} {cI cZ cJ : ClassId} {Q : State → Prop} (F : LcF p l s m c b L xs D cI cZ cJ) {i : Nat} (hi : i + 6 ≤ L) (hL : L ≤ 3072) {A : AS} {t : Int32} {wc wm : va_W} {g : Nat → Int64} (hA : aOK A) (hC : ClP ox op xO xW xN xC xA xM xG xT xH xR xF xB xX ob oc oh hc hp ot yc yt cI cZ A wc) (hM : MdP om uS uV uB uT uA uP uR cI t A wm) {H : Heap} {locs : List Loc} {ls : Array Slot} (hP : va_P D vwCl (Wl wc cJ ol g wm) H) (hD : va_D (fun q : Nat => s.heap.size ≤ q) (Wl wc cJ ol g wm)) (hS : va_S (fun q : Nat => s.heap.size ≤ q) s.heap H locs) (hl : lv_has ls 9 [(4, .int (nI i)), (3, .ref ol), (2, .ref om), (1, .ref ox), (0, .ref b)]) {cells slots : Nat} (hc1 : cells + 1 ≤ 601181) (hs1 : slots + 6 ≤ 7292561) (kk : ∀ (A9 : AS) (t9 : Int32) (wc9 wm9 : va_W) (g9 : Nat → Int64) (H9 : Heap) (locs9 : List Loc) (ls9 : Array Slot), aOK A9 → ClP ox op xO xW xN xC xA xM xG xT xH xR xF xB xX ob oc oh hc hp ot yc yt cI cZ A9 wc9 → MdP om uS uV uB uT uA uP uR cI t9 A9 wm9 → va_P D vwCl (Wl wc9 cJ ol g9 wm9) H9 → va_D (fun q : Nat => s.heap.size ≤ q) (Wl wc9 cJ ol g9 wm9) → va_S (fun q : Nat => s.heap.size ≤ q) s.heap H9 locs9 → lv_has ls9 9 [(4, .int (nI i)), (3, .ref ol), (2, .ref om), (1, .ref ox), (0, .ref b)] → W p l e room_1 s m #[Value.ref b] below meth c H9 locs9 (cells + 1) (slots + 6) Q (F0 m 1373 ls9 [])) : W p l e room_1 s m #[Value.ref b] below meth c H locs cells slots Q (F0 m 260 ls []) := by
  obtain ⟨hfl, hx, hb, hml, hown, hts, hX, hbl, hK, hN, hZ, hT⟩ := F
  have hbA : ¬ (fun q : Nat => s.heap.size ≤ q) b := Nat.not_le.mpr hbl
  refine lv_aload_n hx hb dL_law_260 rfl (lv_at hl 3 rfl) ?_
  refine lv_aload_n hx hb dL_law_261 rfl (lv_at hl 4 rfl) ?_
  refine lv_iload hx hb dL_law_262 (lv_at hl 0 rfl) ?_
  refine lv_iconst (v := 1) hx hb dL_law_264 (by decide) ?_
  refine lv_iadd hx hb dL_law_265 ?_
  refine lv_asi (y := nI (i + 1)) (nI_add i 1) ?_
  refine va_sld hx hb hX hbl hbA hS (vp_in_nI (by omega) (by omega)) dL_law_266 ?_
  refine lv_aload_n hx hb dL_law_267 rfl (lv_at hl 1 rfl) ?_
  refine lc_L (As := [.ref ox, .int (xs (nI (i + 1)).toNatClampNeg), .ref ol]) (rest := []) ⟨hx, hb, hml, hown, hts⟩ (k_L_remove l hfl D hA hC (xs (nI (i + 1)).toNatClampNeg)) (vx_cwSW 3 hts gL_law_L_remove rfl rfl rfl (by decide +kernel) ⟨by decide, by decide⟩) hK hN hZ hT hP hD hS [0, 1, 2] rfl rfl hl.1 rfl (Nat.le_of_ble_eq_true rfl) ⟨hc1, hs1⟩ dL_law_268 (fun v9 w9 H locs hp9 hP hD hS => ?_)
  obtain ⟨kL, rL, AL, gL, wcL, rfl, hspL, hgL, hCL, rfl⟩ := hp9
  have hP : va_P D vwCl (Wl wcL cJ ol gL wm) H := hP
  have hD : va_D (fun q : Nat => s.heap.size ≤ q) (Wl wcL cJ ol gL wm) := hD
  refine W.eq (g2 := F0 m 271 ls [.int kL]) rfl ?_
  refine lv_istore (lv' := [(5, .int kL), (4, .int (nI i)), (3, .ref ol), (2, .ref om), (1, .ref ox), (0, .ref b)]) hx hb dL_law_271 hl (by decide) rfl (fun ls hl => ?_)
  refine lv_aload_n hx hb dL_law_273 rfl (lv_at hl 3 rfl) ?_
  refine lv_aload_n hx hb dL_law_274 rfl (lv_at hl 5 rfl) ?_
  refine lv_iload hx hb dL_law_275 (lv_at hl 1 rfl) ?_
  refine lv_iconst (v := 1) hx hb dL_law_277 (by decide) ?_
  refine lv_iadd hx hb dL_law_278 ?_
  refine lv_asi (y := nI (i + 1)) (nI_add i 1) ?_
  refine va_sld hx hb hX hbl hbA hS (vp_in_nI (by omega) (by omega)) dL_law_279 ?_
  obtain ⟨fsm, hrm⟩ := mdP_rec hM
  refine lc_M (As := [.int (xs (nI (i + 1)).toNatClampNeg)]) (rest := []) ⟨hx, hb, hml, hown, hts⟩ (k_X5_remove l D hA hM (xs (nI (i + 1)).toNatClampNeg)) (cwV 1 hts gL_law_X5_remove rfl rfl rfl (by decide +kernel) ⟨by decide, by decide⟩) hK hN hZ hP hD hS [0] rfl hrm rfl rfl hl.1 rfl (Nat.le_of_ble_eq_true rfl) ⟨by show _ ≤ 601181; omega, by show _ ≤ 7292561; omega⟩ dL_law_280 (fun v9 w9 H locs hp9 hP hD hS => ?_)
  obtain ⟨tM, rM, AM, rfl, hspM, hMM⟩ := hp9
  obtain ⟨rfl, rfl, rfl⟩ : kL = tM ∧ rL = rM ∧ AL = AM := by have h9 := hspL.symm.trans hspM; simp only [Prod.mk.injEq] at h9; exact h9
  have hA9 : aOK AL := by have h9 : aOK (spRemove A (xs (nI (i + 1)).toNatClampNeg)).2.2 := ok_remove hA; rw [hspL] at h9; exact h9
  refine W.eq (g2 := F0 m 283 ls [.int rL]) rfl ?_
  refine lv_istore (lv' := [(6, .int rL), (5, .int kL), (4, .int (nI i)), (3, .ref ol), (2, .ref om), (1, .ref ox), (0, .ref b)]) hx hb dL_law_283 hl (by decide) rfl (fun ls hl => ?_)
  refine lv_aload_n hx hb dL_law_285 rfl (lv_at hl 4 rfl) ?_
  obtain ⟨fsm, hrm⟩ := mdP_rec hMM
  refine lc_M (As := []) (rest := []) ⟨hx, hb, hml, hown, hts⟩ (k_X5_thrown l D hMM) (cwV 0 hts gL_law_X5_thrown rfl rfl rfl (by decide +kernel) ⟨by decide, by decide⟩) hK hN hZ hP hD hS [0] rfl hrm rfl rfl hl.1 rfl (Nat.le_of_ble_eq_true rfl) ⟨by show _ ≤ 601181; omega, by show _ ≤ 7292561; omega⟩ dL_law_286 (fun v9 w9 H locs hp9 hP hD hS => ?_)
  obtain ⟨rfl, hMT⟩ := hp9
  refine W.eq (g2 := F0 m 289 ls [.int kL]) rfl ?_
  refine lv_iload hx hb dL_law_289 (lv_at hl 1 rfl) ?_
  refine lv_icmp_eq (tgt := 296) hx hb dL_law_291 (by decide) (fun _ => ?_) (fun hne => absurd rfl hne)
  refine lv_iload hx hb dL_law_296 (lv_at hl 1 rfl) ?_
  refine lv_if_ne (tgt := 313) hx hb dL_law_298 (by decide) (fun _ => ?_) (fun hk0 => ?_)
  · refine lv_goto (tgt := 1373) hx hb dL_law_313 (by decide) ?_
    exact kk AL kL wcL w9 gL H locs ls hA9 hCL hMT hP hD hS (lv_sub hl [2, 3, 4, 5, 6] rfl)
  · refine lv_aload_n hx hb dL_law_301 rfl (lv_at hl 3 rfl) ?_
    refine lv_iconst (v := 0) hx hb dL_law_302 (by decide) ?_
    refine lc_ld hx hb hK hP 2 rfl dL_law_303 ?_
    refine lv_iload hx hb dL_law_304 (lv_at hl 0 rfl) ?_
    refine lv_i2l (v := (rL : Int32).toInt64) hx hb dL_law_306 rfl ?_
    refine lv_lcmp_eq hx hb (hgL hk0) dL_law_307 ?_
    refine lv_if_eq (tgt := 313) hx hb dL_law_308 (by decide) (fun _ => ?_) (fun hne => absurd rfl hne)
    refine lv_goto (tgt := 1373) hx hb dL_law_313 (by decide) ?_
    exact kk AL kL wcL w9 gL H locs ls hA9 hCL hMT hP hD hS (lv_sub hl [2, 3, 4, 5, 6] rfl)
set_option maxHeartbeats 2000000 in
set_option maxRecDepth 100000 in
theorem law_2 {p : Program} {l : Launch} {e : Env} {s : State} {m : MethodId} {below : List Frame} {meth : Method} {c : Code} {b L : Nat} {xs : Nat → Int32} {D : va_G} {ox op xO xW xN xC xA xM xG xT xH xR xF xB xX ob oc oh hc hp ot yc yt ol om uS uV uB uT uA uP uR : Nat} {cI cZ cJ : ClassId} {Q : State → Prop} (F : LcF p l s m c b L xs D cI cZ cJ) {i : Nat} (hi : i + 6 ≤ L) (hL : L ≤ 3072) {A : AS} {t : Int32} {wc wm : va_W} {g : Nat → Int64} (hA : aOK A) (hC : ClP ox op xO xW xN xC xA xM xG xT xH xR xF xB xX ob oc oh hc hp ot yc yt cI cZ A wc) (hM : MdP om uS uV uB uT uA uP uR cI t A wm) {H : Heap} {locs : List Loc} {ls : Array Slot} (hP : va_P D vwCl (Wl wc cJ ol g wm) H) (hD : va_D (fun q : Nat => s.heap.size ≤ q) (Wl wc cJ ol g wm)) (hS : va_S (fun q : Nat => s.heap.size ≤ q) s.heap H locs) (hl : lv_has ls 9 [(4, .int (nI i)), (3, .ref ol), (2, .ref om), (1, .ref ox), (0, .ref b)]) {cells slots : Nat} (hc1 : cells + 1 ≤ 601181) (hs1 : slots + 6 ≤ 7292561) (kk : ∀ (A9 : AS) (t9 : Int32) (wc9 wm9 : va_W) (g9 : Nat → Int64) (H9 : Heap) (locs9 : List Loc) (ls9 : Array Slot), aOK A9 → ClP ox op xO xW xN xC xA xM xG xT xH xR xF xB xX ob oc oh hc hp ot yc yt cI cZ A9 wc9 → MdP om uS uV uB uT uA uP uR cI t9 A9 wm9 → va_P D vwCl (Wl wc9 cJ ol g9 wm9) H9 → va_D (fun q : Nat => s.heap.size ≤ q) (Wl wc9 cJ ol g9 wm9) → va_S (fun q : Nat => s.heap.size ≤ q) s.heap H9 locs9 → lv_has ls9 9 [(4, .int (nI i)), (3, .ref ol), (2, .ref om), (1, .ref ox), (0, .ref b)] → W p l e room_1 s m #[Value.ref b] below meth c H9 locs9 (cells + 1) (slots + 6) Q (F0 m 1373 ls9 [])) : W p l e room_1 s m #[Value.ref b] below meth c H locs cells slots Q (F0 m 316 ls []) := by
  obtain ⟨hfl, hx, hb, hml, hown, hts, hX, hbl, hK, hN, hZ, hT⟩ := F
  have hbA : ¬ (fun q : Nat => s.heap.size ≤ q) b := Nat.not_le.mpr hbl
  refine lv_aload_n hx hb dL_law_316 rfl (lv_at hl 3 rfl) ?_
  refine lv_aload_n hx hb dL_law_317 rfl (lv_at hl 4 rfl) ?_
  refine lv_iload hx hb dL_law_318 (lv_at hl 0 rfl) ?_
  refine lv_iconst (v := 1) hx hb dL_law_320 (by decide) ?_
  refine lv_iadd hx hb dL_law_321 ?_
  refine lv_asi (y := nI (i + 1)) (nI_add i 1) ?_
  refine va_sld hx hb hX hbl hbA hS (vp_in_nI (by omega) (by omega)) dL_law_322 ?_
  refine lv_aload_n hx hb dL_law_323 rfl (lv_at hl 4 rfl) ?_
  refine lv_iload hx hb dL_law_324 (lv_at hl 0 rfl) ?_
  refine lv_iconst (v := 2) hx hb dL_law_326 (by decide) ?_
  refine lv_iadd hx hb dL_law_327 ?_
  refine lv_asi (y := nI (i + 2)) (nI_add i 2) ?_
  refine va_sld hx hb hX hbl hbA hS (vp_in_nI (by omega) (by omega)) dL_law_328 ?_
  refine lv_aload_n hx hb dL_law_329 rfl (lv_at hl 1 rfl) ?_
  refine lc_L (As := [.ref ox, .int (xs (nI (i + 1)).toNatClampNeg), .int (xs (nI (i + 2)).toNatClampNeg), .ref ol]) (rest := []) ⟨hx, hb, hml, hown, hts⟩ (k_L_weigh l hfl D hA hC (xs (nI (i + 1)).toNatClampNeg) (xs (nI (i + 2)).toNatClampNeg)) (vx_cwSW 4 hts gL_law_L_weigh rfl rfl rfl (by decide +kernel) ⟨by decide, by decide⟩) hK hN hZ hT hP hD hS [0, 1, 2] rfl rfl hl.1 rfl (Nat.le_of_ble_eq_true rfl) ⟨hc1, hs1⟩ dL_law_330 (fun v9 w9 H locs hp9 hP hD hS => ?_)
  obtain ⟨kL, rL, AL, gL, wcL, rfl, hspL, hgL, hCL, rfl⟩ := hp9
  have hP : va_P D vwCl (Wl wcL cJ ol gL wm) H := hP
  have hD : va_D (fun q : Nat => s.heap.size ≤ q) (Wl wcL cJ ol gL wm) := hD
  refine W.eq (g2 := F0 m 333 ls [.int kL]) rfl ?_
  refine lv_istore (lv' := [(5, .int kL), (4, .int (nI i)), (3, .ref ol), (2, .ref om), (1, .ref ox), (0, .ref b)]) hx hb dL_law_333 hl (by decide) rfl (fun ls hl => ?_)
  refine lv_aload_n hx hb dL_law_335 rfl (lv_at hl 3 rfl) ?_
  refine lv_aload_n hx hb dL_law_336 rfl (lv_at hl 5 rfl) ?_
  refine lv_iload hx hb dL_law_337 (lv_at hl 1 rfl) ?_
  refine lv_iconst (v := 1) hx hb dL_law_339 (by decide) ?_
  refine lv_iadd hx hb dL_law_340 ?_
  refine lv_asi (y := nI (i + 1)) (nI_add i 1) ?_
  refine va_sld hx hb hX hbl hbA hS (vp_in_nI (by omega) (by omega)) dL_law_341 ?_
  refine lv_aload_n hx hb dL_law_342 rfl (lv_at hl 5 rfl) ?_
  refine lv_iload hx hb dL_law_343 (lv_at hl 1 rfl) ?_
  refine lv_iconst (v := 2) hx hb dL_law_345 (by decide) ?_
  refine lv_iadd hx hb dL_law_346 ?_
  refine lv_asi (y := nI (i + 2)) (nI_add i 2) ?_
  refine va_sld hx hb hX hbl hbA hS (vp_in_nI (by omega) (by omega)) dL_law_347 ?_
  obtain ⟨fsm, hrm⟩ := mdP_rec hM
  refine lc_M (As := [.int (xs (nI (i + 1)).toNatClampNeg), .int (xs (nI (i + 2)).toNatClampNeg)]) (rest := []) ⟨hx, hb, hml, hown, hts⟩ (k_X5_weigh l D hA hM (xs (nI (i + 1)).toNatClampNeg) (xs (nI (i + 2)).toNatClampNeg)) (cwV 2 hts gL_law_X5_weigh rfl rfl rfl (by decide +kernel) ⟨by decide, by decide⟩) hK hN hZ hP hD hS [0] rfl hrm rfl rfl hl.1 rfl (Nat.le_of_ble_eq_true rfl) ⟨by show _ ≤ 601181; omega, by show _ ≤ 7292561; omega⟩ dL_law_348 (fun v9 w9 H locs hp9 hP hD hS => ?_)
  obtain ⟨tM, rM, AM, rfl, hspM, hMM⟩ := hp9
  obtain ⟨rfl, rfl, rfl⟩ : kL = tM ∧ rL = rM ∧ AL = AM := by have h9 := hspL.symm.trans hspM; simp only [Prod.mk.injEq] at h9; exact h9
  have hA9 : aOK AL := by have h9 : aOK (spWeigh A (xs (nI (i + 1)).toNatClampNeg) (xs (nI (i + 2)).toNatClampNeg)).2.2 := ok_weigh hA; rw [hspL] at h9; exact h9
  refine W.eq (g2 := F0 m 351 ls [.int rL]) rfl ?_
  refine lv_istore (lv' := [(6, .int rL), (5, .int kL), (4, .int (nI i)), (3, .ref ol), (2, .ref om), (1, .ref ox), (0, .ref b)]) hx hb dL_law_351 hl (by decide) rfl (fun ls hl => ?_)
  refine lv_aload_n hx hb dL_law_353 rfl (lv_at hl 4 rfl) ?_
  obtain ⟨fsm, hrm⟩ := mdP_rec hMM
  refine lc_M (As := []) (rest := []) ⟨hx, hb, hml, hown, hts⟩ (k_X5_thrown l D hMM) (cwV 0 hts gL_law_X5_thrown rfl rfl rfl (by decide +kernel) ⟨by decide, by decide⟩) hK hN hZ hP hD hS [0] rfl hrm rfl rfl hl.1 rfl (Nat.le_of_ble_eq_true rfl) ⟨by show _ ≤ 601181; omega, by show _ ≤ 7292561; omega⟩ dL_law_354 (fun v9 w9 H locs hp9 hP hD hS => ?_)
  obtain ⟨rfl, hMT⟩ := hp9
  refine W.eq (g2 := F0 m 357 ls [.int kL]) rfl ?_
  refine lv_iload hx hb dL_law_357 (lv_at hl 1 rfl) ?_
  refine lv_icmp_eq (tgt := 364) hx hb dL_law_359 (by decide) (fun _ => ?_) (fun hne => absurd rfl hne)
  refine lv_iload hx hb dL_law_364 (lv_at hl 1 rfl) ?_
  refine lv_if_ne (tgt := 381) hx hb dL_law_366 (by decide) (fun _ => ?_) (fun hk0 => ?_)
  · refine lv_goto (tgt := 1373) hx hb dL_law_381 (by decide) ?_
    exact kk AL kL wcL w9 gL H locs ls hA9 hCL hMT hP hD hS (lv_sub hl [2, 3, 4, 5, 6] rfl)
  · refine lv_aload_n hx hb dL_law_369 rfl (lv_at hl 3 rfl) ?_
    refine lv_iconst (v := 0) hx hb dL_law_370 (by decide) ?_
    refine lc_ld hx hb hK hP 2 rfl dL_law_371 ?_
    refine lv_iload hx hb dL_law_372 (lv_at hl 0 rfl) ?_
    refine lv_i2l (v := (rL : Int32).toInt64) hx hb dL_law_374 rfl ?_
    refine lv_lcmp_eq hx hb (hgL hk0) dL_law_375 ?_
    refine lv_if_eq (tgt := 381) hx hb dL_law_376 (by decide) (fun _ => ?_) (fun hne => absurd rfl hne)
    refine lv_goto (tgt := 1373) hx hb dL_law_381 (by decide) ?_
    exact kk AL kL wcL w9 gL H locs ls hA9 hCL hMT hP hD hS (lv_sub hl [2, 3, 4, 5, 6] rfl)
set_option maxHeartbeats 2000000 in
set_option maxRecDepth 100000 in
theorem law_3 {p : Program} {l : Launch} {e : Env} {s : State} {m : MethodId} {below : List Frame} {meth : Method} {c : Code} {b L : Nat} {xs : Nat → Int32} {D : va_G} {ox op xO xW xN xC xA xM xG xT xH xR xF xB xX ob oc oh hc hp ot yc yt ol om uS uV uB uT uA uP uR : Nat} {cI cZ cJ : ClassId} {Q : State → Prop} (F : LcF p l s m c b L xs D cI cZ cJ) {i : Nat} (hi : i + 6 ≤ L) (hL : L ≤ 3072) {A : AS} {t : Int32} {wc wm : va_W} {g : Nat → Int64} (hA : aOK A) (hC : ClP ox op xO xW xN xC xA xM xG xT xH xR xF xB xX ob oc oh hc hp ot yc yt cI cZ A wc) (hM : MdP om uS uV uB uT uA uP uR cI t A wm) {H : Heap} {locs : List Loc} {ls : Array Slot} (hP : va_P D vwCl (Wl wc cJ ol g wm) H) (hD : va_D (fun q : Nat => s.heap.size ≤ q) (Wl wc cJ ol g wm)) (hS : va_S (fun q : Nat => s.heap.size ≤ q) s.heap H locs) (hl : lv_has ls 9 [(4, .int (nI i)), (3, .ref ol), (2, .ref om), (1, .ref ox), (0, .ref b)]) {cells slots : Nat} (hc1 : cells + 1 ≤ 601181) (hs1 : slots + 6 ≤ 7292561) (kk : ∀ (A9 : AS) (t9 : Int32) (wc9 wm9 : va_W) (g9 : Nat → Int64) (H9 : Heap) (locs9 : List Loc) (ls9 : Array Slot), aOK A9 → ClP ox op xO xW xN xC xA xM xG xT xH xR xF xB xX ob oc oh hc hp ot yc yt cI cZ A9 wc9 → MdP om uS uV uB uT uA uP uR cI t9 A9 wm9 → va_P D vwCl (Wl wc9 cJ ol g9 wm9) H9 → va_D (fun q : Nat => s.heap.size ≤ q) (Wl wc9 cJ ol g9 wm9) → va_S (fun q : Nat => s.heap.size ≤ q) s.heap H9 locs9 → lv_has ls9 9 [(4, .int (nI i)), (3, .ref ol), (2, .ref om), (1, .ref ox), (0, .ref b)] → W p l e room_1 s m #[Value.ref b] below meth c H9 locs9 (cells + 1) (slots + 6) Q (F0 m 1373 ls9 [])) : W p l e room_1 s m #[Value.ref b] below meth c H locs cells slots Q (F0 m 384 ls []) := by
  obtain ⟨hfl, hx, hb, hml, hown, hts, hX, hbl, hK, hN, hZ, hT⟩ := F
  have hbA : ¬ (fun q : Nat => s.heap.size ≤ q) b := Nat.not_le.mpr hbl
  refine lv_aload_n hx hb dL_law_384 rfl (lv_at hl 3 rfl) ?_
  refine lv_aload_n hx hb dL_law_385 rfl (lv_at hl 4 rfl) ?_
  refine lv_iload hx hb dL_law_386 (lv_at hl 0 rfl) ?_
  refine lv_iconst (v := 1) hx hb dL_law_388 (by decide) ?_
  refine lv_iadd hx hb dL_law_389 ?_
  refine lv_asi (y := nI (i + 1)) (nI_add i 1) ?_
  refine va_sld hx hb hX hbl hbA hS (vp_in_nI (by omega) (by omega)) dL_law_390 ?_
  refine lv_aload_n hx hb dL_law_391 rfl (lv_at hl 4 rfl) ?_
  refine lv_iload hx hb dL_law_392 (lv_at hl 0 rfl) ?_
  refine lv_iconst (v := 2) hx hb dL_law_394 (by decide) ?_
  refine lv_iadd hx hb dL_law_395 ?_
  refine lv_asi (y := nI (i + 2)) (nI_add i 2) ?_
  refine va_sld hx hb hX hbl hbA hS (vp_in_nI (by omega) (by omega)) dL_law_396 ?_
  refine lv_aload_n hx hb dL_law_397 rfl (lv_at hl 4 rfl) ?_
  refine lv_iload hx hb dL_law_398 (lv_at hl 0 rfl) ?_
  refine lv_iconst (v := 3) hx hb dL_law_400 (by decide) ?_
  refine lv_iadd hx hb dL_law_401 ?_
  refine lv_asi (y := nI (i + 3)) (nI_add i 3) ?_
  refine va_sld hx hb hX hbl hbA hS (vp_in_nI (by omega) (by omega)) dL_law_402 ?_
  refine lv_aload_n hx hb dL_law_403 rfl (lv_at hl 1 rfl) ?_
  refine lc_L (As := [.ref ox, .int (xs (nI (i + 1)).toNatClampNeg), .int (xs (nI (i + 2)).toNatClampNeg), .int (xs (nI (i + 3)).toNatClampNeg), .ref ol]) (rest := []) ⟨hx, hb, hml, hown, hts⟩ (k_L_resize l hfl D hA hC (xs (nI (i + 1)).toNatClampNeg) (xs (nI (i + 2)).toNatClampNeg) (xs (nI (i + 3)).toNatClampNeg)) (vx_cwSW 5 hts gL_law_L_resize rfl rfl rfl (by decide +kernel) ⟨by decide, by decide⟩) hK hN hZ hT hP hD hS [0, 1, 2] rfl rfl hl.1 rfl (Nat.le_of_ble_eq_true rfl) ⟨hc1, hs1⟩ dL_law_404 (fun v9 w9 H locs hp9 hP hD hS => ?_)
  obtain ⟨kL, rL, AL, gL, wcL, rfl, hspL, hgL, hCL, rfl⟩ := hp9
  have hP : va_P D vwCl (Wl wcL cJ ol gL wm) H := hP
  have hD : va_D (fun q : Nat => s.heap.size ≤ q) (Wl wcL cJ ol gL wm) := hD
  refine W.eq (g2 := F0 m 407 ls [.int kL]) rfl ?_
  refine lv_istore (lv' := [(5, .int kL), (4, .int (nI i)), (3, .ref ol), (2, .ref om), (1, .ref ox), (0, .ref b)]) hx hb dL_law_407 hl (by decide) rfl (fun ls hl => ?_)
  refine lv_aload_n hx hb dL_law_409 rfl (lv_at hl 3 rfl) ?_
  refine lv_aload_n hx hb dL_law_410 rfl (lv_at hl 5 rfl) ?_
  refine lv_iload hx hb dL_law_411 (lv_at hl 1 rfl) ?_
  refine lv_iconst (v := 1) hx hb dL_law_413 (by decide) ?_
  refine lv_iadd hx hb dL_law_414 ?_
  refine lv_asi (y := nI (i + 1)) (nI_add i 1) ?_
  refine va_sld hx hb hX hbl hbA hS (vp_in_nI (by omega) (by omega)) dL_law_415 ?_
  refine lv_aload_n hx hb dL_law_416 rfl (lv_at hl 5 rfl) ?_
  refine lv_iload hx hb dL_law_417 (lv_at hl 1 rfl) ?_
  refine lv_iconst (v := 2) hx hb dL_law_419 (by decide) ?_
  refine lv_iadd hx hb dL_law_420 ?_
  refine lv_asi (y := nI (i + 2)) (nI_add i 2) ?_
  refine va_sld hx hb hX hbl hbA hS (vp_in_nI (by omega) (by omega)) dL_law_421 ?_
  refine lv_aload_n hx hb dL_law_422 rfl (lv_at hl 5 rfl) ?_
  refine lv_iload hx hb dL_law_423 (lv_at hl 1 rfl) ?_
  refine lv_iconst (v := 3) hx hb dL_law_425 (by decide) ?_
  refine lv_iadd hx hb dL_law_426 ?_
  refine lv_asi (y := nI (i + 3)) (nI_add i 3) ?_
  refine va_sld hx hb hX hbl hbA hS (vp_in_nI (by omega) (by omega)) dL_law_427 ?_
  obtain ⟨fsm, hrm⟩ := mdP_rec hM
  refine lc_M (As := [.int (xs (nI (i + 1)).toNatClampNeg), .int (xs (nI (i + 2)).toNatClampNeg), .int (xs (nI (i + 3)).toNatClampNeg)]) (rest := []) ⟨hx, hb, hml, hown, hts⟩ (k_X5_resize l D hA hM (xs (nI (i + 1)).toNatClampNeg) (xs (nI (i + 2)).toNatClampNeg) (xs (nI (i + 3)).toNatClampNeg)) (cwV 3 hts gL_law_X5_resize rfl rfl rfl (by decide +kernel) ⟨by decide, by decide⟩) hK hN hZ hP hD hS [0] rfl hrm rfl rfl hl.1 rfl (Nat.le_of_ble_eq_true rfl) ⟨by show _ ≤ 601181; omega, by show _ ≤ 7292561; omega⟩ dL_law_428 (fun v9 w9 H locs hp9 hP hD hS => ?_)
  obtain ⟨tM, rM, AM, rfl, hspM, hMM⟩ := hp9
  obtain ⟨rfl, rfl, rfl⟩ : kL = tM ∧ rL = rM ∧ AL = AM := by have h9 := hspL.symm.trans hspM; simp only [Prod.mk.injEq] at h9; exact h9
  have hA9 : aOK AL := by have h9 : aOK (spResize A (xs (nI (i + 1)).toNatClampNeg) (xs (nI (i + 2)).toNatClampNeg) (xs (nI (i + 3)).toNatClampNeg)).2.2 := ok_resize hA; rw [hspL] at h9; exact h9
  refine W.eq (g2 := F0 m 431 ls [.int rL]) rfl ?_
  refine lv_istore (lv' := [(6, .int rL), (5, .int kL), (4, .int (nI i)), (3, .ref ol), (2, .ref om), (1, .ref ox), (0, .ref b)]) hx hb dL_law_431 hl (by decide) rfl (fun ls hl => ?_)
  refine lv_aload_n hx hb dL_law_433 rfl (lv_at hl 4 rfl) ?_
  obtain ⟨fsm, hrm⟩ := mdP_rec hMM
  refine lc_M (As := []) (rest := []) ⟨hx, hb, hml, hown, hts⟩ (k_X5_thrown l D hMM) (cwV 0 hts gL_law_X5_thrown rfl rfl rfl (by decide +kernel) ⟨by decide, by decide⟩) hK hN hZ hP hD hS [0] rfl hrm rfl rfl hl.1 rfl (Nat.le_of_ble_eq_true rfl) ⟨by show _ ≤ 601181; omega, by show _ ≤ 7292561; omega⟩ dL_law_434 (fun v9 w9 H locs hp9 hP hD hS => ?_)
  obtain ⟨rfl, hMT⟩ := hp9
  refine W.eq (g2 := F0 m 437 ls [.int kL]) rfl ?_
  refine lv_iload hx hb dL_law_437 (lv_at hl 1 rfl) ?_
  refine lv_icmp_eq (tgt := 444) hx hb dL_law_439 (by decide) (fun _ => ?_) (fun hne => absurd rfl hne)
  refine lv_iload hx hb dL_law_444 (lv_at hl 1 rfl) ?_
  refine lv_if_ne (tgt := 461) hx hb dL_law_446 (by decide) (fun _ => ?_) (fun hk0 => ?_)
  · refine lv_goto (tgt := 1373) hx hb dL_law_461 (by decide) ?_
    exact kk AL kL wcL w9 gL H locs ls hA9 hCL hMT hP hD hS (lv_sub hl [2, 3, 4, 5, 6] rfl)
  · refine lv_aload_n hx hb dL_law_449 rfl (lv_at hl 3 rfl) ?_
    refine lv_iconst (v := 0) hx hb dL_law_450 (by decide) ?_
    refine lc_ld hx hb hK hP 2 rfl dL_law_451 ?_
    refine lv_iload hx hb dL_law_452 (lv_at hl 0 rfl) ?_
    refine lv_i2l (v := (rL : Int32).toInt64) hx hb dL_law_454 rfl ?_
    refine lv_lcmp_eq hx hb (hgL hk0) dL_law_455 ?_
    refine lv_if_eq (tgt := 461) hx hb dL_law_456 (by decide) (fun _ => ?_) (fun hne => absurd rfl hne)
    refine lv_goto (tgt := 1373) hx hb dL_law_461 (by decide) ?_
    exact kk AL kL wcL w9 gL H locs ls hA9 hCL hMT hP hD hS (lv_sub hl [2, 3, 4, 5, 6] rfl)
set_option maxHeartbeats 2000000 in
set_option maxRecDepth 100000 in
theorem law_4 {p : Program} {l : Launch} {e : Env} {s : State} {m : MethodId} {below : List Frame} {meth : Method} {c : Code} {b L : Nat} {xs : Nat → Int32} {D : va_G} {ox op xO xW xN xC xA xM xG xT xH xR xF xB xX ob oc oh hc hp ot yc yt ol om uS uV uB uT uA uP uR : Nat} {cI cZ cJ : ClassId} {Q : State → Prop} (F : LcF p l s m c b L xs D cI cZ cJ) {i : Nat} (hi : i + 6 ≤ L) (hL : L ≤ 3072) {A : AS} {t : Int32} {wc wm : va_W} {g : Nat → Int64} (hA : aOK A) (hC : ClP ox op xO xW xN xC xA xM xG xT xH xR xF xB xX ob oc oh hc hp ot yc yt cI cZ A wc) (hM : MdP om uS uV uB uT uA uP uR cI t A wm) {H : Heap} {locs : List Loc} {ls : Array Slot} (hP : va_P D vwCl (Wl wc cJ ol g wm) H) (hD : va_D (fun q : Nat => s.heap.size ≤ q) (Wl wc cJ ol g wm)) (hS : va_S (fun q : Nat => s.heap.size ≤ q) s.heap H locs) (hl : lv_has ls 9 [(4, .int (nI i)), (3, .ref ol), (2, .ref om), (1, .ref ox), (0, .ref b)]) {cells slots : Nat} (hc1 : cells + 1 ≤ 601181) (hs1 : slots + 6 ≤ 7292561) (kk : ∀ (A9 : AS) (t9 : Int32) (wc9 wm9 : va_W) (g9 : Nat → Int64) (H9 : Heap) (locs9 : List Loc) (ls9 : Array Slot), aOK A9 → ClP ox op xO xW xN xC xA xM xG xT xH xR xF xB xX ob oc oh hc hp ot yc yt cI cZ A9 wc9 → MdP om uS uV uB uT uA uP uR cI t9 A9 wm9 → va_P D vwCl (Wl wc9 cJ ol g9 wm9) H9 → va_D (fun q : Nat => s.heap.size ≤ q) (Wl wc9 cJ ol g9 wm9) → va_S (fun q : Nat => s.heap.size ≤ q) s.heap H9 locs9 → lv_has ls9 9 [(4, .int (nI i)), (3, .ref ol), (2, .ref om), (1, .ref ox), (0, .ref b)] → W p l e room_1 s m #[Value.ref b] below meth c H9 locs9 (cells + 1) (slots + 6) Q (F0 m 1373 ls9 [])) : W p l e room_1 s m #[Value.ref b] below meth c H locs cells slots Q (F0 m 464 ls []) := by
  obtain ⟨hfl, hx, hb, hml, hown, hts, hX, hbl, hK, hN, hZ, hT⟩ := F
  have hbA : ¬ (fun q : Nat => s.heap.size ≤ q) b := Nat.not_le.mpr hbl
  refine lv_aload_n hx hb dL_law_464 rfl (lv_at hl 3 rfl) ?_
  refine lv_aload_n hx hb dL_law_465 rfl (lv_at hl 4 rfl) ?_
  refine lv_iload hx hb dL_law_466 (lv_at hl 0 rfl) ?_
  refine lv_iconst (v := 1) hx hb dL_law_468 (by decide) ?_
  refine lv_iadd hx hb dL_law_469 ?_
  refine lv_asi (y := nI (i + 1)) (nI_add i 1) ?_
  refine va_sld hx hb hX hbl hbA hS (vp_in_nI (by omega) (by omega)) dL_law_470 ?_
  refine lv_aload_n hx hb dL_law_471 rfl (lv_at hl 4 rfl) ?_
  refine lv_iload hx hb dL_law_472 (lv_at hl 0 rfl) ?_
  refine lv_iconst (v := 2) hx hb dL_law_474 (by decide) ?_
  refine lv_iadd hx hb dL_law_475 ?_
  refine lv_asi (y := nI (i + 2)) (nI_add i 2) ?_
  refine va_sld hx hb hX hbl hbA hS (vp_in_nI (by omega) (by omega)) dL_law_476 ?_
  refine lv_aload_n hx hb dL_law_477 rfl (lv_at hl 1 rfl) ?_
  refine lc_L (As := [.ref ox, .int (xs (nI (i + 1)).toNatClampNeg), .int (xs (nI (i + 2)).toNatClampNeg), .ref ol]) (rest := []) ⟨hx, hb, hml, hown, hts⟩ (k_L_place l hfl D hA hC (xs (nI (i + 1)).toNatClampNeg) (xs (nI (i + 2)).toNatClampNeg)) (vx_cwSW 4 hts gL_law_L_place rfl rfl rfl (by decide +kernel) ⟨by decide, by decide⟩) hK hN hZ hT hP hD hS [0, 1, 2] rfl rfl hl.1 rfl (Nat.le_of_ble_eq_true rfl) ⟨hc1, hs1⟩ dL_law_478 (fun v9 w9 H locs hp9 hP hD hS => ?_)
  obtain ⟨kL, rL, AL, gL, wcL, rfl, hspL, hgL, hCL, rfl⟩ := hp9
  have hP : va_P D vwCl (Wl wcL cJ ol gL wm) H := hP
  have hD : va_D (fun q : Nat => s.heap.size ≤ q) (Wl wcL cJ ol gL wm) := hD
  refine W.eq (g2 := F0 m 481 ls [.int kL]) rfl ?_
  refine lv_istore (lv' := [(5, .int kL), (4, .int (nI i)), (3, .ref ol), (2, .ref om), (1, .ref ox), (0, .ref b)]) hx hb dL_law_481 hl (by decide) rfl (fun ls hl => ?_)
  refine lv_aload_n hx hb dL_law_483 rfl (lv_at hl 3 rfl) ?_
  refine lv_aload_n hx hb dL_law_484 rfl (lv_at hl 5 rfl) ?_
  refine lv_iload hx hb dL_law_485 (lv_at hl 1 rfl) ?_
  refine lv_iconst (v := 1) hx hb dL_law_487 (by decide) ?_
  refine lv_iadd hx hb dL_law_488 ?_
  refine lv_asi (y := nI (i + 1)) (nI_add i 1) ?_
  refine va_sld hx hb hX hbl hbA hS (vp_in_nI (by omega) (by omega)) dL_law_489 ?_
  refine lv_aload_n hx hb dL_law_490 rfl (lv_at hl 5 rfl) ?_
  refine lv_iload hx hb dL_law_491 (lv_at hl 1 rfl) ?_
  refine lv_iconst (v := 2) hx hb dL_law_493 (by decide) ?_
  refine lv_iadd hx hb dL_law_494 ?_
  refine lv_asi (y := nI (i + 2)) (nI_add i 2) ?_
  refine va_sld hx hb hX hbl hbA hS (vp_in_nI (by omega) (by omega)) dL_law_495 ?_
  obtain ⟨fsm, hrm⟩ := mdP_rec hM
  refine lc_M (As := [.int (xs (nI (i + 1)).toNatClampNeg), .int (xs (nI (i + 2)).toNatClampNeg)]) (rest := []) ⟨hx, hb, hml, hown, hts⟩ (k_X5_place l D hA hM (xs (nI (i + 1)).toNatClampNeg) (xs (nI (i + 2)).toNatClampNeg)) (cwV 2 hts gL_law_X5_place rfl rfl rfl (by decide +kernel) ⟨by decide, by decide⟩) hK hN hZ hP hD hS [0] rfl hrm rfl rfl hl.1 rfl (Nat.le_of_ble_eq_true rfl) ⟨by show _ ≤ 601181; omega, by show _ ≤ 7292561; omega⟩ dL_law_496 (fun v9 w9 H locs hp9 hP hD hS => ?_)
  obtain ⟨tM, rM, AM, rfl, hspM, hMM⟩ := hp9
  obtain ⟨rfl, rfl, rfl⟩ : kL = tM ∧ rL = rM ∧ AL = AM := by have h9 := hspL.symm.trans hspM; simp only [Prod.mk.injEq] at h9; exact h9
  have hA9 : aOK AL := by have h9 : aOK (spPlace A (xs (nI (i + 1)).toNatClampNeg) (xs (nI (i + 2)).toNatClampNeg)).2.2 := ok_place hA; rw [hspL] at h9; exact h9
  refine W.eq (g2 := F0 m 499 ls [.int rL]) rfl ?_
  refine lv_istore (lv' := [(6, .int rL), (5, .int kL), (4, .int (nI i)), (3, .ref ol), (2, .ref om), (1, .ref ox), (0, .ref b)]) hx hb dL_law_499 hl (by decide) rfl (fun ls hl => ?_)
  refine lv_aload_n hx hb dL_law_501 rfl (lv_at hl 4 rfl) ?_
  obtain ⟨fsm, hrm⟩ := mdP_rec hMM
  refine lc_M (As := []) (rest := []) ⟨hx, hb, hml, hown, hts⟩ (k_X5_thrown l D hMM) (cwV 0 hts gL_law_X5_thrown rfl rfl rfl (by decide +kernel) ⟨by decide, by decide⟩) hK hN hZ hP hD hS [0] rfl hrm rfl rfl hl.1 rfl (Nat.le_of_ble_eq_true rfl) ⟨by show _ ≤ 601181; omega, by show _ ≤ 7292561; omega⟩ dL_law_502 (fun v9 w9 H locs hp9 hP hD hS => ?_)
  obtain ⟨rfl, hMT⟩ := hp9
  refine W.eq (g2 := F0 m 505 ls [.int kL]) rfl ?_
  refine lv_iload hx hb dL_law_505 (lv_at hl 1 rfl) ?_
  refine lv_icmp_eq (tgt := 512) hx hb dL_law_507 (by decide) (fun _ => ?_) (fun hne => absurd rfl hne)
  refine lv_iload hx hb dL_law_512 (lv_at hl 1 rfl) ?_
  refine lv_if_ne (tgt := 529) hx hb dL_law_514 (by decide) (fun _ => ?_) (fun hk0 => ?_)
  · refine lv_goto (tgt := 1373) hx hb dL_law_529 (by decide) ?_
    exact kk AL kL wcL w9 gL H locs ls hA9 hCL hMT hP hD hS (lv_sub hl [2, 3, 4, 5, 6] rfl)
  · refine lv_aload_n hx hb dL_law_517 rfl (lv_at hl 3 rfl) ?_
    refine lv_iconst (v := 0) hx hb dL_law_518 (by decide) ?_
    refine lc_ld hx hb hK hP 2 rfl dL_law_519 ?_
    refine lv_iload hx hb dL_law_520 (lv_at hl 0 rfl) ?_
    refine lv_i2l (v := (rL : Int32).toInt64) hx hb dL_law_522 rfl ?_
    refine lv_lcmp_eq hx hb (hgL hk0) dL_law_523 ?_
    refine lv_if_eq (tgt := 529) hx hb dL_law_524 (by decide) (fun _ => ?_) (fun hne => absurd rfl hne)
    refine lv_goto (tgt := 1373) hx hb dL_law_529 (by decide) ?_
    exact kk AL kL wcL w9 gL H locs ls hA9 hCL hMT hP hD hS (lv_sub hl [2, 3, 4, 5, 6] rfl)
set_option maxHeartbeats 2000000 in
set_option maxRecDepth 100000 in
theorem law_5 {p : Program} {l : Launch} {e : Env} {s : State} {m : MethodId} {below : List Frame} {meth : Method} {c : Code} {b L : Nat} {xs : Nat → Int32} {D : va_G} {ox op xO xW xN xC xA xM xG xT xH xR xF xB xX ob oc oh hc hp ot yc yt ol om uS uV uB uT uA uP uR : Nat} {cI cZ cJ : ClassId} {Q : State → Prop} (F : LcF p l s m c b L xs D cI cZ cJ) {i : Nat} (hi : i + 6 ≤ L) (hL : L ≤ 3072) {A : AS} {t : Int32} {wc wm : va_W} {g : Nat → Int64} (hA : aOK A) (hC : ClP ox op xO xW xN xC xA xM xG xT xH xR xF xB xX ob oc oh hc hp ot yc yt cI cZ A wc) (hM : MdP om uS uV uB uT uA uP uR cI t A wm) {H : Heap} {locs : List Loc} {ls : Array Slot} (hP : va_P D vwCl (Wl wc cJ ol g wm) H) (hD : va_D (fun q : Nat => s.heap.size ≤ q) (Wl wc cJ ol g wm)) (hS : va_S (fun q : Nat => s.heap.size ≤ q) s.heap H locs) (hl : lv_has ls 9 [(4, .int (nI i)), (3, .ref ol), (2, .ref om), (1, .ref ox), (0, .ref b)]) {cells slots : Nat} (hc1 : cells + 1 ≤ 601181) (hs1 : slots + 6 ≤ 7292561) (kk : ∀ (A9 : AS) (t9 : Int32) (wc9 wm9 : va_W) (g9 : Nat → Int64) (H9 : Heap) (locs9 : List Loc) (ls9 : Array Slot), aOK A9 → ClP ox op xO xW xN xC xA xM xG xT xH xR xF xB xX ob oc oh hc hp ot yc yt cI cZ A9 wc9 → MdP om uS uV uB uT uA uP uR cI t9 A9 wm9 → va_P D vwCl (Wl wc9 cJ ol g9 wm9) H9 → va_D (fun q : Nat => s.heap.size ≤ q) (Wl wc9 cJ ol g9 wm9) → va_S (fun q : Nat => s.heap.size ≤ q) s.heap H9 locs9 → lv_has ls9 9 [(4, .int (nI i)), (3, .ref ol), (2, .ref om), (1, .ref ox), (0, .ref b)] → W p l e room_1 s m #[Value.ref b] below meth c H9 locs9 (cells + 1) (slots + 6) Q (F0 m 1373 ls9 [])) : W p l e room_1 s m #[Value.ref b] below meth c H locs cells slots Q (F0 m 532 ls []) := by
  obtain ⟨hfl, hx, hb, hml, hown, hts, hX, hbl, hK, hN, hZ, hT⟩ := F
  have hbA : ¬ (fun q : Nat => s.heap.size ≤ q) b := Nat.not_le.mpr hbl
  refine lv_aload_n hx hb dL_law_532 rfl (lv_at hl 3 rfl) ?_
  refine lv_aload_n hx hb dL_law_533 rfl (lv_at hl 4 rfl) ?_
  refine lv_iload hx hb dL_law_534 (lv_at hl 0 rfl) ?_
  refine lv_iconst (v := 1) hx hb dL_law_536 (by decide) ?_
  refine lv_iadd hx hb dL_law_537 ?_
  refine lv_asi (y := nI (i + 1)) (nI_add i 1) ?_
  refine va_sld hx hb hX hbl hbA hS (vp_in_nI (by omega) (by omega)) dL_law_538 ?_
  refine lv_aload_n hx hb dL_law_539 rfl (lv_at hl 1 rfl) ?_
  refine lc_L (As := [.ref ox, .int (xs (nI (i + 1)).toNatClampNeg), .ref ol]) (rest := []) ⟨hx, hb, hml, hown, hts⟩ (k_L_drop l hfl D hA hC (xs (nI (i + 1)).toNatClampNeg)) (vx_cwSW 3 hts gL_law_L_drop rfl rfl rfl (by decide +kernel) ⟨by decide, by decide⟩) hK hN hZ hT hP hD hS [0, 1, 2] rfl rfl hl.1 rfl (Nat.le_of_ble_eq_true rfl) ⟨hc1, hs1⟩ dL_law_540 (fun v9 w9 H locs hp9 hP hD hS => ?_)
  obtain ⟨kL, rL, AL, gL, wcL, rfl, hspL, hgL, hCL, rfl⟩ := hp9
  have hP : va_P D vwCl (Wl wcL cJ ol gL wm) H := hP
  have hD : va_D (fun q : Nat => s.heap.size ≤ q) (Wl wcL cJ ol gL wm) := hD
  refine W.eq (g2 := F0 m 543 ls [.int kL]) rfl ?_
  refine lv_istore (lv' := [(5, .int kL), (4, .int (nI i)), (3, .ref ol), (2, .ref om), (1, .ref ox), (0, .ref b)]) hx hb dL_law_543 hl (by decide) rfl (fun ls hl => ?_)
  refine lv_aload_n hx hb dL_law_545 rfl (lv_at hl 3 rfl) ?_
  refine lv_aload_n hx hb dL_law_546 rfl (lv_at hl 5 rfl) ?_
  refine lv_iload hx hb dL_law_547 (lv_at hl 1 rfl) ?_
  refine lv_iconst (v := 1) hx hb dL_law_549 (by decide) ?_
  refine lv_iadd hx hb dL_law_550 ?_
  refine lv_asi (y := nI (i + 1)) (nI_add i 1) ?_
  refine va_sld hx hb hX hbl hbA hS (vp_in_nI (by omega) (by omega)) dL_law_551 ?_
  obtain ⟨fsm, hrm⟩ := mdP_rec hM
  refine lc_M (As := [.int (xs (nI (i + 1)).toNatClampNeg)]) (rest := []) ⟨hx, hb, hml, hown, hts⟩ (k_X5_drop l D hA hM (xs (nI (i + 1)).toNatClampNeg)) (cwV 1 hts gL_law_X5_drop rfl rfl rfl (by decide +kernel) ⟨by decide, by decide⟩) hK hN hZ hP hD hS [0] rfl hrm rfl rfl hl.1 rfl (Nat.le_of_ble_eq_true rfl) ⟨by show _ ≤ 601181; omega, by show _ ≤ 7292561; omega⟩ dL_law_552 (fun v9 w9 H locs hp9 hP hD hS => ?_)
  obtain ⟨tM, rM, AM, rfl, hspM, hMM⟩ := hp9
  obtain ⟨rfl, rfl, rfl⟩ : kL = tM ∧ rL = rM ∧ AL = AM := by have h9 := hspL.symm.trans hspM; simp only [Prod.mk.injEq] at h9; exact h9
  have hA9 : aOK AL := by have h9 : aOK (spDrop A (xs (nI (i + 1)).toNatClampNeg)).2.2 := ok_drop hA; rw [hspL] at h9; exact h9
  refine W.eq (g2 := F0 m 555 ls [.int rL]) rfl ?_
  refine lv_istore (lv' := [(6, .int rL), (5, .int kL), (4, .int (nI i)), (3, .ref ol), (2, .ref om), (1, .ref ox), (0, .ref b)]) hx hb dL_law_555 hl (by decide) rfl (fun ls hl => ?_)
  refine lv_aload_n hx hb dL_law_557 rfl (lv_at hl 4 rfl) ?_
  obtain ⟨fsm, hrm⟩ := mdP_rec hMM
  refine lc_M (As := []) (rest := []) ⟨hx, hb, hml, hown, hts⟩ (k_X5_thrown l D hMM) (cwV 0 hts gL_law_X5_thrown rfl rfl rfl (by decide +kernel) ⟨by decide, by decide⟩) hK hN hZ hP hD hS [0] rfl hrm rfl rfl hl.1 rfl (Nat.le_of_ble_eq_true rfl) ⟨by show _ ≤ 601181; omega, by show _ ≤ 7292561; omega⟩ dL_law_558 (fun v9 w9 H locs hp9 hP hD hS => ?_)
  obtain ⟨rfl, hMT⟩ := hp9
  refine W.eq (g2 := F0 m 561 ls [.int kL]) rfl ?_
  refine lv_iload hx hb dL_law_561 (lv_at hl 1 rfl) ?_
  refine lv_icmp_eq (tgt := 568) hx hb dL_law_563 (by decide) (fun _ => ?_) (fun hne => absurd rfl hne)
  refine lv_iload hx hb dL_law_568 (lv_at hl 1 rfl) ?_
  refine lv_if_ne (tgt := 585) hx hb dL_law_570 (by decide) (fun _ => ?_) (fun hk0 => ?_)
  · refine lv_goto (tgt := 1373) hx hb dL_law_585 (by decide) ?_
    exact kk AL kL wcL w9 gL H locs ls hA9 hCL hMT hP hD hS (lv_sub hl [2, 3, 4, 5, 6] rfl)
  · refine lv_aload_n hx hb dL_law_573 rfl (lv_at hl 3 rfl) ?_
    refine lv_iconst (v := 0) hx hb dL_law_574 (by decide) ?_
    refine lc_ld hx hb hK hP 2 rfl dL_law_575 ?_
    refine lv_iload hx hb dL_law_576 (lv_at hl 0 rfl) ?_
    refine lv_i2l (v := (rL : Int32).toInt64) hx hb dL_law_578 rfl ?_
    refine lv_lcmp_eq hx hb (hgL hk0) dL_law_579 ?_
    refine lv_if_eq (tgt := 585) hx hb dL_law_580 (by decide) (fun _ => ?_) (fun hne => absurd rfl hne)
    refine lv_goto (tgt := 1373) hx hb dL_law_585 (by decide) ?_
    exact kk AL kL wcL w9 gL H locs ls hA9 hCL hMT hP hD hS (lv_sub hl [2, 3, 4, 5, 6] rfl)
set_option maxHeartbeats 2000000 in
set_option maxRecDepth 100000 in
theorem law_6 {p : Program} {l : Launch} {e : Env} {s : State} {m : MethodId} {below : List Frame} {meth : Method} {c : Code} {b L : Nat} {xs : Nat → Int32} {D : va_G} {ox op xO xW xN xC xA xM xG xT xH xR xF xB xX ob oc oh hc hp ot yc yt ol om uS uV uB uT uA uP uR : Nat} {cI cZ cJ : ClassId} {Q : State → Prop} (F : LcF p l s m c b L xs D cI cZ cJ) {i : Nat} (hi : i + 6 ≤ L) (hL : L ≤ 3072) {A : AS} {t : Int32} {wc wm : va_W} {g : Nat → Int64} (hA : aOK A) (hC : ClP ox op xO xW xN xC xA xM xG xT xH xR xF xB xX ob oc oh hc hp ot yc yt cI cZ A wc) (hM : MdP om uS uV uB uT uA uP uR cI t A wm) {H : Heap} {locs : List Loc} {ls : Array Slot} (hP : va_P D vwCl (Wl wc cJ ol g wm) H) (hD : va_D (fun q : Nat => s.heap.size ≤ q) (Wl wc cJ ol g wm)) (hS : va_S (fun q : Nat => s.heap.size ≤ q) s.heap H locs) (hl : lv_has ls 9 [(4, .int (nI i)), (3, .ref ol), (2, .ref om), (1, .ref ox), (0, .ref b)]) {cells slots : Nat} (hc1 : cells + 1 ≤ 601181) (hs1 : slots + 6 ≤ 7292561) (kk : ∀ (A9 : AS) (t9 : Int32) (wc9 wm9 : va_W) (g9 : Nat → Int64) (H9 : Heap) (locs9 : List Loc) (ls9 : Array Slot), aOK A9 → ClP ox op xO xW xN xC xA xM xG xT xH xR xF xB xX ob oc oh hc hp ot yc yt cI cZ A9 wc9 → MdP om uS uV uB uT uA uP uR cI t9 A9 wm9 → va_P D vwCl (Wl wc9 cJ ol g9 wm9) H9 → va_D (fun q : Nat => s.heap.size ≤ q) (Wl wc9 cJ ol g9 wm9) → va_S (fun q : Nat => s.heap.size ≤ q) s.heap H9 locs9 → lv_has ls9 9 [(4, .int (nI i)), (3, .ref ol), (2, .ref om), (1, .ref ox), (0, .ref b)] → W p l e room_1 s m #[Value.ref b] below meth c H9 locs9 (cells + 1) (slots + 6) Q (F0 m 1373 ls9 [])) : W p l e room_1 s m #[Value.ref b] below meth c H locs cells slots Q (F0 m 588 ls []) := by
  obtain ⟨hfl, hx, hb, hml, hown, hts, hX, hbl, hK, hN, hZ, hT⟩ := F
  have hbA : ¬ (fun q : Nat => s.heap.size ≤ q) b := Nat.not_le.mpr hbl
  refine lv_aload_n hx hb dL_law_588 rfl (lv_at hl 3 rfl) ?_
  obtain ⟨fsc, hrc⟩ := clP_rec hC
  refine lc_C (As := []) (rest := []) ⟨hx, hb, hml, hown, hts⟩ (k_X4_solve l D hA hC) (cwV 0 hts gL_law_X4_solve rfl rfl rfl (by decide +kernel) ⟨by decide, by decide⟩) hK hN hZ hP hD hS [0, 1] rfl hrc rfl rfl hl.1 rfl (Nat.le_of_ble_eq_true rfl) ⟨by show _ ≤ 601181; omega, by show _ ≤ 7292561; omega⟩ dL_law_589 (fun v9 w9 H locs hp9 hP hD hS => ?_)
  obtain ⟨rL, AL, rfl, hspL, hCL⟩ := hp9
  refine W.eq (g2 := F0 m 592 ls [.int rL]) rfl ?_
  refine lv_aload_n hx hb dL_law_592 rfl (lv_at hl 2 rfl) ?_
  obtain ⟨fsm, hrm⟩ := mdP_rec hM
  refine lc_M (As := []) (rest := [.int rL]) ⟨hx, hb, hml, hown, hts⟩ (k_X5_solve l D hA hM) (cwV 0 hts gL_law_X5_solve rfl rfl rfl (by decide +kernel) ⟨by decide, by decide⟩) hK hN hZ hP hD hS [0] rfl hrm rfl rfl hl.1 rfl (Nat.le_of_ble_eq_true rfl) ⟨by show _ ≤ 601181; omega, by show _ ≤ 7292561; omega⟩ dL_law_593 (fun v9 w9 H locs hp9 hP hD hS => ?_)
  obtain ⟨tM, rM, AM, rfl, hspM, hMM⟩ := hp9
  obtain ⟨rfl, rfl, rfl⟩ : 0 = tM ∧ rL = rM ∧ AL = AM := by have h9 := hspL.symm.trans hspM; simp only [Prod.mk.injEq] at h9; exact h9
  have hA9 : aOK AL := by have h9 : aOK (spSolve A).2.2 := ok_solve hA; rw [hspL] at h9; exact h9
  refine W.eq (g2 := F0 m 596 ls [.int rL, .int rL]) rfl ?_
  refine lv_icmp_eq (tgt := 1373) hx hb dL_law_596 (by decide) (fun _ => ?_) (fun hne => absurd rfl hne)
  refine W.widen (k := cells + 1) (n := slots + 6) (by omega) (by omega) ?_
  exact kk AL 0 _ _ g H locs ls hA9 hCL hMM hP hD hS (lv_sub hl [0, 1, 2, 3, 4] rfl)
set_option maxHeartbeats 2000000 in
set_option maxRecDepth 100000 in
theorem law_7 {p : Program} {l : Launch} {e : Env} {s : State} {m : MethodId} {below : List Frame} {meth : Method} {c : Code} {b L : Nat} {xs : Nat → Int32} {D : va_G} {ox op xO xW xN xC xA xM xG xT xH xR xF xB xX ob oc oh hc hp ot yc yt ol om uS uV uB uT uA uP uR : Nat} {cI cZ cJ : ClassId} {Q : State → Prop} (F : LcF p l s m c b L xs D cI cZ cJ) {i : Nat} (hi : i + 6 ≤ L) (hL : L ≤ 3072) {A : AS} {t : Int32} {wc wm : va_W} {g : Nat → Int64} (hA : aOK A) (hC : ClP ox op xO xW xN xC xA xM xG xT xH xR xF xB xX ob oc oh hc hp ot yc yt cI cZ A wc) (hM : MdP om uS uV uB uT uA uP uR cI t A wm) {H : Heap} {locs : List Loc} {ls : Array Slot} (hP : va_P D vwCl (Wl wc cJ ol g wm) H) (hD : va_D (fun q : Nat => s.heap.size ≤ q) (Wl wc cJ ol g wm)) (hS : va_S (fun q : Nat => s.heap.size ≤ q) s.heap H locs) (hl : lv_has ls 9 [(4, .int (nI i)), (3, .ref ol), (2, .ref om), (1, .ref ox), (0, .ref b)]) {cells slots : Nat} (hc1 : cells + 1 ≤ 601181) (hs1 : slots + 6 ≤ 7292561) (kk : ∀ (A9 : AS) (t9 : Int32) (wc9 wm9 : va_W) (g9 : Nat → Int64) (H9 : Heap) (locs9 : List Loc) (ls9 : Array Slot), aOK A9 → ClP ox op xO xW xN xC xA xM xG xT xH xR xF xB xX ob oc oh hc hp ot yc yt cI cZ A9 wc9 → MdP om uS uV uB uT uA uP uR cI t9 A9 wm9 → va_P D vwCl (Wl wc9 cJ ol g9 wm9) H9 → va_D (fun q : Nat => s.heap.size ≤ q) (Wl wc9 cJ ol g9 wm9) → va_S (fun q : Nat => s.heap.size ≤ q) s.heap H9 locs9 → lv_has ls9 9 [(4, .int (nI i)), (3, .ref ol), (2, .ref om), (1, .ref ox), (0, .ref b)] → W p l e room_1 s m #[Value.ref b] below meth c H9 locs9 (cells + 1) (slots + 6) Q (F0 m 1373 ls9 [])) : W p l e room_1 s m #[Value.ref b] below meth c H locs cells slots Q (F0 m 601 ls []) := by
  obtain ⟨hfl, hx, hb, hml, hown, hts, hX, hbl, hK, hN, hZ, hT⟩ := F
  have hbA : ¬ (fun q : Nat => s.heap.size ≤ q) b := Nat.not_le.mpr hbl
  refine lv_aload_n hx hb dL_law_601 rfl (lv_at hl 3 rfl) ?_
  refine lv_aload_n hx hb dL_law_602 rfl (lv_at hl 4 rfl) ?_
  refine lv_iload hx hb dL_law_603 (lv_at hl 0 rfl) ?_
  refine lv_iconst (v := 1) hx hb dL_law_605 (by decide) ?_
  refine lv_iadd hx hb dL_law_606 ?_
  refine lv_asi (y := nI (i + 1)) (nI_add i 1) ?_
  refine va_sld hx hb hX hbl hbA hS (vp_in_nI (by omega) (by omega)) dL_law_607 ?_
  refine lv_aload_n hx hb dL_law_608 rfl (lv_at hl 1 rfl) ?_
  refine lc_L (As := [.ref ox, .int (xs (nI (i + 1)).toNatClampNeg), .ref ol]) (rest := []) ⟨hx, hb, hml, hown, hts⟩ (k_L_push l hfl D hA hC (xs (nI (i + 1)).toNatClampNeg)) (vx_cwSW 3 hts gL_law_L_push rfl rfl rfl (by decide +kernel) ⟨by decide, by decide⟩) hK hN hZ hT hP hD hS [0, 1, 2] rfl rfl hl.1 rfl (Nat.le_of_ble_eq_true rfl) ⟨hc1, hs1⟩ dL_law_609 (fun v9 w9 H locs hp9 hP hD hS => ?_)
  obtain ⟨kL, rL, AL, gL, wcL, rfl, hspL, hgL, hCL, rfl⟩ := hp9
  have hP : va_P D vwCl (Wl wcL cJ ol gL wm) H := hP
  have hD : va_D (fun q : Nat => s.heap.size ≤ q) (Wl wcL cJ ol gL wm) := hD
  refine W.eq (g2 := F0 m 612 ls [.int kL]) rfl ?_
  refine lv_istore (lv' := [(5, .int kL), (4, .int (nI i)), (3, .ref ol), (2, .ref om), (1, .ref ox), (0, .ref b)]) hx hb dL_law_612 hl (by decide) rfl (fun ls hl => ?_)
  refine lv_aload_n hx hb dL_law_614 rfl (lv_at hl 3 rfl) ?_
  refine lv_aload_n hx hb dL_law_615 rfl (lv_at hl 5 rfl) ?_
  refine lv_iload hx hb dL_law_616 (lv_at hl 1 rfl) ?_
  refine lv_iconst (v := 1) hx hb dL_law_618 (by decide) ?_
  refine lv_iadd hx hb dL_law_619 ?_
  refine lv_asi (y := nI (i + 1)) (nI_add i 1) ?_
  refine va_sld hx hb hX hbl hbA hS (vp_in_nI (by omega) (by omega)) dL_law_620 ?_
  obtain ⟨fsm, hrm⟩ := mdP_rec hM
  refine lc_M (As := [.int (xs (nI (i + 1)).toNatClampNeg)]) (rest := []) ⟨hx, hb, hml, hown, hts⟩ (k_X5_push l D hA hM (xs (nI (i + 1)).toNatClampNeg)) (cwV 1 hts gL_law_X5_push rfl rfl rfl (by decide +kernel) ⟨by decide, by decide⟩) hK hN hZ hP hD hS [0] rfl hrm rfl rfl hl.1 rfl (Nat.le_of_ble_eq_true rfl) ⟨by show _ ≤ 601181; omega, by show _ ≤ 7292561; omega⟩ dL_law_621 (fun v9 w9 H locs hp9 hP hD hS => ?_)
  obtain ⟨tM, rM, AM, rfl, hspM, hMM⟩ := hp9
  obtain ⟨rfl, rfl, rfl⟩ : kL = tM ∧ rL = rM ∧ AL = AM := by have h9 := hspL.symm.trans hspM; simp only [Prod.mk.injEq] at h9; exact h9
  have hA9 : aOK AL := by have h9 : aOK (spPush A (xs (nI (i + 1)).toNatClampNeg)).2.2 := ok_push hA; rw [hspL] at h9; exact h9
  refine W.eq (g2 := F0 m 624 ls [.int rL]) rfl ?_
  refine lv_istore (lv' := [(6, .int rL), (5, .int kL), (4, .int (nI i)), (3, .ref ol), (2, .ref om), (1, .ref ox), (0, .ref b)]) hx hb dL_law_624 hl (by decide) rfl (fun ls hl => ?_)
  refine lv_aload_n hx hb dL_law_626 rfl (lv_at hl 4 rfl) ?_
  obtain ⟨fsm, hrm⟩ := mdP_rec hMM
  refine lc_M (As := []) (rest := []) ⟨hx, hb, hml, hown, hts⟩ (k_X5_thrown l D hMM) (cwV 0 hts gL_law_X5_thrown rfl rfl rfl (by decide +kernel) ⟨by decide, by decide⟩) hK hN hZ hP hD hS [0] rfl hrm rfl rfl hl.1 rfl (Nat.le_of_ble_eq_true rfl) ⟨by show _ ≤ 601181; omega, by show _ ≤ 7292561; omega⟩ dL_law_627 (fun v9 w9 H locs hp9 hP hD hS => ?_)
  obtain ⟨rfl, hMT⟩ := hp9
  refine W.eq (g2 := F0 m 630 ls [.int kL]) rfl ?_
  refine lv_iload hx hb dL_law_630 (lv_at hl 1 rfl) ?_
  refine lv_icmp_eq (tgt := 637) hx hb dL_law_632 (by decide) (fun _ => ?_) (fun hne => absurd rfl hne)
  refine lv_iload hx hb dL_law_637 (lv_at hl 1 rfl) ?_
  refine lv_if_ne (tgt := 654) hx hb dL_law_639 (by decide) (fun _ => ?_) (fun hk0 => ?_)
  · refine lv_goto (tgt := 1373) hx hb dL_law_654 (by decide) ?_
    exact kk AL kL wcL w9 gL H locs ls hA9 hCL hMT hP hD hS (lv_sub hl [2, 3, 4, 5, 6] rfl)
  · refine lv_aload_n hx hb dL_law_642 rfl (lv_at hl 3 rfl) ?_
    refine lv_iconst (v := 0) hx hb dL_law_643 (by decide) ?_
    refine lc_ld hx hb hK hP 2 rfl dL_law_644 ?_
    refine lv_iload hx hb dL_law_645 (lv_at hl 0 rfl) ?_
    refine lv_i2l (v := (rL : Int32).toInt64) hx hb dL_law_647 rfl ?_
    refine lv_lcmp_eq hx hb (hgL hk0) dL_law_648 ?_
    refine lv_if_eq (tgt := 654) hx hb dL_law_649 (by decide) (fun _ => ?_) (fun hne => absurd rfl hne)
    refine lv_goto (tgt := 1373) hx hb dL_law_654 (by decide) ?_
    exact kk AL kL wcL w9 gL H locs ls hA9 hCL hMT hP hD hS (lv_sub hl [2, 3, 4, 5, 6] rfl)
set_option maxHeartbeats 2000000 in
set_option maxRecDepth 100000 in
theorem law_8 {p : Program} {l : Launch} {e : Env} {s : State} {m : MethodId} {below : List Frame} {meth : Method} {c : Code} {b L : Nat} {xs : Nat → Int32} {D : va_G} {ox op xO xW xN xC xA xM xG xT xH xR xF xB xX ob oc oh hc hp ot yc yt ol om uS uV uB uT uA uP uR : Nat} {cI cZ cJ : ClassId} {Q : State → Prop} (F : LcF p l s m c b L xs D cI cZ cJ) {i : Nat} (hi : i + 6 ≤ L) (hL : L ≤ 3072) {A : AS} {t : Int32} {wc wm : va_W} {g : Nat → Int64} (hA : aOK A) (hC : ClP ox op xO xW xN xC xA xM xG xT xH xR xF xB xX ob oc oh hc hp ot yc yt cI cZ A wc) (hM : MdP om uS uV uB uT uA uP uR cI t A wm) {H : Heap} {locs : List Loc} {ls : Array Slot} (hP : va_P D vwCl (Wl wc cJ ol g wm) H) (hD : va_D (fun q : Nat => s.heap.size ≤ q) (Wl wc cJ ol g wm)) (hS : va_S (fun q : Nat => s.heap.size ≤ q) s.heap H locs) (hl : lv_has ls 9 [(4, .int (nI i)), (3, .ref ol), (2, .ref om), (1, .ref ox), (0, .ref b)]) {cells slots : Nat} (hc1 : cells + 1 ≤ 601181) (hs1 : slots + 6 ≤ 7292561) (kk : ∀ (A9 : AS) (t9 : Int32) (wc9 wm9 : va_W) (g9 : Nat → Int64) (H9 : Heap) (locs9 : List Loc) (ls9 : Array Slot), aOK A9 → ClP ox op xO xW xN xC xA xM xG xT xH xR xF xB xX ob oc oh hc hp ot yc yt cI cZ A9 wc9 → MdP om uS uV uB uT uA uP uR cI t9 A9 wm9 → va_P D vwCl (Wl wc9 cJ ol g9 wm9) H9 → va_D (fun q : Nat => s.heap.size ≤ q) (Wl wc9 cJ ol g9 wm9) → va_S (fun q : Nat => s.heap.size ≤ q) s.heap H9 locs9 → lv_has ls9 9 [(4, .int (nI i)), (3, .ref ol), (2, .ref om), (1, .ref ox), (0, .ref b)] → W p l e room_1 s m #[Value.ref b] below meth c H9 locs9 (cells + 1) (slots + 6) Q (F0 m 1373 ls9 [])) : W p l e room_1 s m #[Value.ref b] below meth c H locs cells slots Q (F0 m 657 ls []) := by
  obtain ⟨hfl, hx, hb, hml, hown, hts, hX, hbl, hK, hN, hZ, hT⟩ := F
  have hbA : ¬ (fun q : Nat => s.heap.size ≤ q) b := Nat.not_le.mpr hbl
  refine lv_aload_n hx hb dL_law_657 rfl (lv_at hl 3 rfl) ?_
  obtain ⟨fsc, hrc⟩ := clP_rec hC
  refine lc_C (As := []) (rest := []) ⟨hx, hb, hml, hown, hts⟩ (k_X4_mirror l D hA hC) (cwV 0 hts gL_law_X4_mirror rfl rfl rfl (by decide +kernel) ⟨by decide, by decide⟩) hK hN hZ hP hD hS [0, 1] rfl hrc rfl rfl hl.1 rfl (Nat.le_of_ble_eq_true rfl) ⟨by show _ ≤ 601181; omega, by show _ ≤ 7292561; omega⟩ dL_law_658 (fun v9 w9 H locs hp9 hP hD hS => ?_)
  obtain ⟨rL, AL, rfl, hspL, hCL⟩ := hp9
  refine W.eq (g2 := F0 m 661 ls [.int rL]) rfl ?_
  refine lv_aload_n hx hb dL_law_661 rfl (lv_at hl 2 rfl) ?_
  obtain ⟨fsm, hrm⟩ := mdP_rec hM
  refine lc_M (As := []) (rest := [.int rL]) ⟨hx, hb, hml, hown, hts⟩ (k_X5_mirror l D hA hM) (cwV 0 hts gL_law_X5_mirror rfl rfl rfl (by decide +kernel) ⟨by decide, by decide⟩) hK hN hZ hP hD hS [0] rfl hrm rfl rfl hl.1 rfl (Nat.le_of_ble_eq_true rfl) ⟨by show _ ≤ 601181; omega, by show _ ≤ 7292561; omega⟩ dL_law_662 (fun v9 w9 H locs hp9 hP hD hS => ?_)
  obtain ⟨tM, rM, AM, rfl, hspM, hMM⟩ := hp9
  obtain ⟨rfl, rfl, rfl⟩ : 0 = tM ∧ rL = rM ∧ AL = AM := by have h9 := hspL.symm.trans hspM; simp only [Prod.mk.injEq] at h9; exact h9
  have hA9 : aOK AL := by have h9 : aOK (spMirror A).2.2 := ok_mirror hA; rw [hspL] at h9; exact h9
  refine W.eq (g2 := F0 m 665 ls [.int rL, .int rL]) rfl ?_
  refine lv_icmp_eq (tgt := 1373) hx hb dL_law_665 (by decide) (fun _ => ?_) (fun hne => absurd rfl hne)
  refine W.widen (k := cells + 1) (n := slots + 6) (by omega) (by omega) ?_
  exact kk AL 0 _ _ g H locs ls hA9 hCL hMM hP hD hS (lv_sub hl [0, 1, 2, 3, 4] rfl)
set_option maxHeartbeats 2000000 in
set_option maxRecDepth 100000 in
theorem law_9 {p : Program} {l : Launch} {e : Env} {s : State} {m : MethodId} {below : List Frame} {meth : Method} {c : Code} {b L : Nat} {xs : Nat → Int32} {D : va_G} {ox op xO xW xN xC xA xM xG xT xH xR xF xB xX ob oc oh hc hp ot yc yt ol om uS uV uB uT uA uP uR : Nat} {cI cZ cJ : ClassId} {Q : State → Prop} (F : LcF p l s m c b L xs D cI cZ cJ) {i : Nat} (hi : i + 6 ≤ L) (hL : L ≤ 3072) {A : AS} {t : Int32} {wc wm : va_W} {g : Nat → Int64} (hA : aOK A) (hC : ClP ox op xO xW xN xC xA xM xG xT xH xR xF xB xX ob oc oh hc hp ot yc yt cI cZ A wc) (hM : MdP om uS uV uB uT uA uP uR cI t A wm) {H : Heap} {locs : List Loc} {ls : Array Slot} (hP : va_P D vwCl (Wl wc cJ ol g wm) H) (hD : va_D (fun q : Nat => s.heap.size ≤ q) (Wl wc cJ ol g wm)) (hS : va_S (fun q : Nat => s.heap.size ≤ q) s.heap H locs) (hl : lv_has ls 9 [(4, .int (nI i)), (3, .ref ol), (2, .ref om), (1, .ref ox), (0, .ref b)]) {cells slots : Nat} (hc1 : cells + 1 ≤ 601181) (hs1 : slots + 6 ≤ 7292561) (kk : ∀ (A9 : AS) (t9 : Int32) (wc9 wm9 : va_W) (g9 : Nat → Int64) (H9 : Heap) (locs9 : List Loc) (ls9 : Array Slot), aOK A9 → ClP ox op xO xW xN xC xA xM xG xT xH xR xF xB xX ob oc oh hc hp ot yc yt cI cZ A9 wc9 → MdP om uS uV uB uT uA uP uR cI t9 A9 wm9 → va_P D vwCl (Wl wc9 cJ ol g9 wm9) H9 → va_D (fun q : Nat => s.heap.size ≤ q) (Wl wc9 cJ ol g9 wm9) → va_S (fun q : Nat => s.heap.size ≤ q) s.heap H9 locs9 → lv_has ls9 9 [(4, .int (nI i)), (3, .ref ol), (2, .ref om), (1, .ref ox), (0, .ref b)] → W p l e room_1 s m #[Value.ref b] below meth c H9 locs9 (cells + 1) (slots + 6) Q (F0 m 1373 ls9 [])) : W p l e room_1 s m #[Value.ref b] below meth c H locs cells slots Q (F0 m 670 ls []) := by
  obtain ⟨hfl, hx, hb, hml, hown, hts, hX, hbl, hK, hN, hZ, hT⟩ := F
  have hbA : ¬ (fun q : Nat => s.heap.size ≤ q) b := Nat.not_le.mpr hbl
  refine lv_aload_n hx hb dL_law_670 rfl (lv_at hl 3 rfl) ?_
  refine lv_aload_n hx hb dL_law_671 rfl (lv_at hl 4 rfl) ?_
  refine lv_iload hx hb dL_law_672 (lv_at hl 0 rfl) ?_
  refine lv_iconst (v := 1) hx hb dL_law_674 (by decide) ?_
  refine lv_iadd hx hb dL_law_675 ?_
  refine lv_asi (y := nI (i + 1)) (nI_add i 1) ?_
  refine va_sld hx hb hX hbl hbA hS (vp_in_nI (by omega) (by omega)) dL_law_676 ?_
  refine lv_aload_n hx hb dL_law_677 rfl (lv_at hl 1 rfl) ?_
  refine lc_L (As := [.ref ox, .int (xs (nI (i + 1)).toNatClampNeg), .ref ol]) (rest := []) ⟨hx, hb, hml, hown, hts⟩ (k_L_append l hfl D hA hC (xs (nI (i + 1)).toNatClampNeg)) (vx_cwSW 3 hts gL_law_L_append rfl rfl rfl (by decide +kernel) ⟨by decide, by decide⟩) hK hN hZ hT hP hD hS [0, 1, 2] rfl rfl hl.1 rfl (Nat.le_of_ble_eq_true rfl) ⟨hc1, hs1⟩ dL_law_678 (fun v9 w9 H locs hp9 hP hD hS => ?_)
  obtain ⟨kL, rL, AL, gL, wcL, rfl, hspL, hgL, hCL, rfl⟩ := hp9
  have hP : va_P D vwCl (Wl wcL cJ ol gL wm) H := hP
  have hD : va_D (fun q : Nat => s.heap.size ≤ q) (Wl wcL cJ ol gL wm) := hD
  refine W.eq (g2 := F0 m 681 ls [.int kL]) rfl ?_
  refine lv_istore (lv' := [(5, .int kL), (4, .int (nI i)), (3, .ref ol), (2, .ref om), (1, .ref ox), (0, .ref b)]) hx hb dL_law_681 hl (by decide) rfl (fun ls hl => ?_)
  refine lv_aload_n hx hb dL_law_683 rfl (lv_at hl 3 rfl) ?_
  refine lv_aload_n hx hb dL_law_684 rfl (lv_at hl 5 rfl) ?_
  refine lv_iload hx hb dL_law_685 (lv_at hl 1 rfl) ?_
  refine lv_iconst (v := 1) hx hb dL_law_687 (by decide) ?_
  refine lv_iadd hx hb dL_law_688 ?_
  refine lv_asi (y := nI (i + 1)) (nI_add i 1) ?_
  refine va_sld hx hb hX hbl hbA hS (vp_in_nI (by omega) (by omega)) dL_law_689 ?_
  obtain ⟨fsm, hrm⟩ := mdP_rec hM
  refine lc_M (As := [.int (xs (nI (i + 1)).toNatClampNeg)]) (rest := []) ⟨hx, hb, hml, hown, hts⟩ (k_X5_append l D hA hM (xs (nI (i + 1)).toNatClampNeg)) (cwV 1 hts gL_law_X5_append rfl rfl rfl (by decide +kernel) ⟨by decide, by decide⟩) hK hN hZ hP hD hS [0] rfl hrm rfl rfl hl.1 rfl (Nat.le_of_ble_eq_true rfl) ⟨by show _ ≤ 601181; omega, by show _ ≤ 7292561; omega⟩ dL_law_690 (fun v9 w9 H locs hp9 hP hD hS => ?_)
  obtain ⟨tM, rM, AM, rfl, hspM, hMM⟩ := hp9
  obtain ⟨rfl, rfl, rfl⟩ : kL = tM ∧ rL = rM ∧ AL = AM := by have h9 := hspL.symm.trans hspM; simp only [Prod.mk.injEq] at h9; exact h9
  have hA9 : aOK AL := by have h9 : aOK (spAppend A (xs (nI (i + 1)).toNatClampNeg)).2.2 := ok_append hA; rw [hspL] at h9; exact h9
  refine W.eq (g2 := F0 m 693 ls [.int rL]) rfl ?_
  refine lv_istore (lv' := [(6, .int rL), (5, .int kL), (4, .int (nI i)), (3, .ref ol), (2, .ref om), (1, .ref ox), (0, .ref b)]) hx hb dL_law_693 hl (by decide) rfl (fun ls hl => ?_)
  refine lv_aload_n hx hb dL_law_695 rfl (lv_at hl 4 rfl) ?_
  obtain ⟨fsm, hrm⟩ := mdP_rec hMM
  refine lc_M (As := []) (rest := []) ⟨hx, hb, hml, hown, hts⟩ (k_X5_thrown l D hMM) (cwV 0 hts gL_law_X5_thrown rfl rfl rfl (by decide +kernel) ⟨by decide, by decide⟩) hK hN hZ hP hD hS [0] rfl hrm rfl rfl hl.1 rfl (Nat.le_of_ble_eq_true rfl) ⟨by show _ ≤ 601181; omega, by show _ ≤ 7292561; omega⟩ dL_law_696 (fun v9 w9 H locs hp9 hP hD hS => ?_)
  obtain ⟨rfl, hMT⟩ := hp9
  refine W.eq (g2 := F0 m 699 ls [.int kL]) rfl ?_
  refine lv_iload hx hb dL_law_699 (lv_at hl 1 rfl) ?_
  refine lv_icmp_eq (tgt := 706) hx hb dL_law_701 (by decide) (fun _ => ?_) (fun hne => absurd rfl hne)
  refine lv_iload hx hb dL_law_706 (lv_at hl 1 rfl) ?_
  refine lv_if_ne (tgt := 723) hx hb dL_law_708 (by decide) (fun _ => ?_) (fun hk0 => ?_)
  · refine lv_goto (tgt := 1373) hx hb dL_law_723 (by decide) ?_
    exact kk AL kL wcL w9 gL H locs ls hA9 hCL hMT hP hD hS (lv_sub hl [2, 3, 4, 5, 6] rfl)
  · refine lv_aload_n hx hb dL_law_711 rfl (lv_at hl 3 rfl) ?_
    refine lv_iconst (v := 0) hx hb dL_law_712 (by decide) ?_
    refine lc_ld hx hb hK hP 2 rfl dL_law_713 ?_
    refine lv_iload hx hb dL_law_714 (lv_at hl 0 rfl) ?_
    refine lv_i2l (v := (rL : Int32).toInt64) hx hb dL_law_716 rfl ?_
    refine lv_lcmp_eq hx hb (hgL hk0) dL_law_717 ?_
    refine lv_if_eq (tgt := 723) hx hb dL_law_718 (by decide) (fun _ => ?_) (fun hne => absurd rfl hne)
    refine lv_goto (tgt := 1373) hx hb dL_law_723 (by decide) ?_
    exact kk AL kL wcL w9 gL H locs ls hA9 hCL hMT hP hD hS (lv_sub hl [2, 3, 4, 5, 6] rfl)
set_option maxHeartbeats 2000000 in
set_option maxRecDepth 100000 in
theorem law_10 {p : Program} {l : Launch} {e : Env} {s : State} {m : MethodId} {below : List Frame} {meth : Method} {c : Code} {b L : Nat} {xs : Nat → Int32} {D : va_G} {ox op xO xW xN xC xA xM xG xT xH xR xF xB xX ob oc oh hc hp ot yc yt ol om uS uV uB uT uA uP uR : Nat} {cI cZ cJ : ClassId} {Q : State → Prop} (F : LcF p l s m c b L xs D cI cZ cJ) {i : Nat} (hi : i + 6 ≤ L) (hL : L ≤ 3072) {A : AS} {t : Int32} {wc wm : va_W} {g : Nat → Int64} (hA : aOK A) (hC : ClP ox op xO xW xN xC xA xM xG xT xH xR xF xB xX ob oc oh hc hp ot yc yt cI cZ A wc) (hM : MdP om uS uV uB uT uA uP uR cI t A wm) {H : Heap} {locs : List Loc} {ls : Array Slot} (hP : va_P D vwCl (Wl wc cJ ol g wm) H) (hD : va_D (fun q : Nat => s.heap.size ≤ q) (Wl wc cJ ol g wm)) (hS : va_S (fun q : Nat => s.heap.size ≤ q) s.heap H locs) (hl : lv_has ls 9 [(4, .int (nI i)), (3, .ref ol), (2, .ref om), (1, .ref ox), (0, .ref b)]) {cells slots : Nat} (hc1 : cells + 1 ≤ 601181) (hs1 : slots + 6 ≤ 7292561) (kk : ∀ (A9 : AS) (t9 : Int32) (wc9 wm9 : va_W) (g9 : Nat → Int64) (H9 : Heap) (locs9 : List Loc) (ls9 : Array Slot), aOK A9 → ClP ox op xO xW xN xC xA xM xG xT xH xR xF xB xX ob oc oh hc hp ot yc yt cI cZ A9 wc9 → MdP om uS uV uB uT uA uP uR cI t9 A9 wm9 → va_P D vwCl (Wl wc9 cJ ol g9 wm9) H9 → va_D (fun q : Nat => s.heap.size ≤ q) (Wl wc9 cJ ol g9 wm9) → va_S (fun q : Nat => s.heap.size ≤ q) s.heap H9 locs9 → lv_has ls9 9 [(4, .int (nI i)), (3, .ref ol), (2, .ref om), (1, .ref ox), (0, .ref b)] → W p l e room_1 s m #[Value.ref b] below meth c H9 locs9 (cells + 1) (slots + 6) Q (F0 m 1373 ls9 [])) : W p l e room_1 s m #[Value.ref b] below meth c H locs cells slots Q (F0 m 726 ls []) := by
  obtain ⟨hfl, hx, hb, hml, hown, hts, hX, hbl, hK, hN, hZ, hT⟩ := F
  have hbA : ¬ (fun q : Nat => s.heap.size ≤ q) b := Nat.not_le.mpr hbl
  refine lv_aload_n hx hb dL_law_726 rfl (lv_at hl 3 rfl) ?_
  obtain ⟨fsc, hrc⟩ := clP_rec hC
  refine lc_C (As := []) (rest := []) ⟨hx, hb, hml, hown, hts⟩ (k_X4_clearBuffer l D hA hC) (cwV 0 hts gL_law_X4_clearBuffer rfl rfl rfl (by decide +kernel) ⟨by decide, by decide⟩) hK hN hZ hP hD hS [0, 1] rfl hrc rfl rfl hl.1 rfl (Nat.le_of_ble_eq_true rfl) ⟨by show _ ≤ 601181; omega, by show _ ≤ 7292561; omega⟩ dL_law_727 (fun v9 w9 H locs hp9 hP hD hS => ?_)
  obtain ⟨rL, AL, rfl, hspL, hCL⟩ := hp9
  refine W.eq (g2 := F0 m 730 ls [.int rL]) rfl ?_
  refine lv_aload_n hx hb dL_law_730 rfl (lv_at hl 2 rfl) ?_
  obtain ⟨fsm, hrm⟩ := mdP_rec hM
  refine lc_M (As := []) (rest := [.int rL]) ⟨hx, hb, hml, hown, hts⟩ (k_X5_clearBuffer l D hA hM) (cwV 0 hts gL_law_X5_clearBuffer rfl rfl rfl (by decide +kernel) ⟨by decide, by decide⟩) hK hN hZ hP hD hS [0] rfl hrm rfl rfl hl.1 rfl (Nat.le_of_ble_eq_true rfl) ⟨by show _ ≤ 601181; omega, by show _ ≤ 7292561; omega⟩ dL_law_731 (fun v9 w9 H locs hp9 hP hD hS => ?_)
  obtain ⟨tM, rM, AM, rfl, hspM, hMM⟩ := hp9
  obtain ⟨rfl, rfl, rfl⟩ : 0 = tM ∧ rL = rM ∧ AL = AM := by have h9 := hspL.symm.trans hspM; simp only [Prod.mk.injEq] at h9; exact h9
  have hA9 : aOK AL := by have h9 : aOK (spClear A).2.2 := ok_clear hA; rw [hspL] at h9; exact h9
  refine W.eq (g2 := F0 m 734 ls [.int rL, .int rL]) rfl ?_
  refine lv_icmp_eq (tgt := 1373) hx hb dL_law_734 (by decide) (fun _ => ?_) (fun hne => absurd rfl hne)
  refine W.widen (k := cells + 1) (n := slots + 6) (by omega) (by omega) ?_
  exact kk AL 0 _ _ g H locs ls hA9 hCL hMM hP hD hS (lv_sub hl [0, 1, 2, 3, 4] rfl)
set_option maxHeartbeats 2000000 in
set_option maxRecDepth 100000 in
theorem law_11 {p : Program} {l : Launch} {e : Env} {s : State} {m : MethodId} {below : List Frame} {meth : Method} {c : Code} {b L : Nat} {xs : Nat → Int32} {D : va_G} {ox op xO xW xN xC xA xM xG xT xH xR xF xB xX ob oc oh hc hp ot yc yt ol om uS uV uB uT uA uP uR : Nat} {cI cZ cJ : ClassId} {Q : State → Prop} (F : LcF p l s m c b L xs D cI cZ cJ) {i : Nat} (hi : i + 6 ≤ L) (hL : L ≤ 3072) {A : AS} {t : Int32} {wc wm : va_W} {g : Nat → Int64} (hA : aOK A) (hC : ClP ox op xO xW xN xC xA xM xG xT xH xR xF xB xX ob oc oh hc hp ot yc yt cI cZ A wc) (hM : MdP om uS uV uB uT uA uP uR cI t A wm) {H : Heap} {locs : List Loc} {ls : Array Slot} (hP : va_P D vwCl (Wl wc cJ ol g wm) H) (hD : va_D (fun q : Nat => s.heap.size ≤ q) (Wl wc cJ ol g wm)) (hS : va_S (fun q : Nat => s.heap.size ≤ q) s.heap H locs) (hl : lv_has ls 9 [(4, .int (nI i)), (3, .ref ol), (2, .ref om), (1, .ref ox), (0, .ref b)]) {cells slots : Nat} (hc1 : cells + 1 ≤ 601181) (hs1 : slots + 6 ≤ 7292561) (kk : ∀ (A9 : AS) (t9 : Int32) (wc9 wm9 : va_W) (g9 : Nat → Int64) (H9 : Heap) (locs9 : List Loc) (ls9 : Array Slot), aOK A9 → ClP ox op xO xW xN xC xA xM xG xT xH xR xF xB xX ob oc oh hc hp ot yc yt cI cZ A9 wc9 → MdP om uS uV uB uT uA uP uR cI t9 A9 wm9 → va_P D vwCl (Wl wc9 cJ ol g9 wm9) H9 → va_D (fun q : Nat => s.heap.size ≤ q) (Wl wc9 cJ ol g9 wm9) → va_S (fun q : Nat => s.heap.size ≤ q) s.heap H9 locs9 → lv_has ls9 9 [(4, .int (nI i)), (3, .ref ol), (2, .ref om), (1, .ref ox), (0, .ref b)] → W p l e room_1 s m #[Value.ref b] below meth c H9 locs9 (cells + 1) (slots + 6) Q (F0 m 1373 ls9 [])) : W p l e room_1 s m #[Value.ref b] below meth c H locs cells slots Q (F0 m 739 ls []) := by
  obtain ⟨hfl, hx, hb, hml, hown, hts, hX, hbl, hK, hN, hZ, hT⟩ := F
  have hbA : ¬ (fun q : Nat => s.heap.size ≤ q) b := Nat.not_le.mpr hbl
  refine lv_aload_n hx hb dL_law_739 rfl (lv_at hl 3 rfl) ?_
  obtain ⟨fsc, hrc⟩ := clP_rec hC
  refine lc_C (As := []) (rest := []) ⟨hx, hb, hml, hown, hts⟩ (k_X4_firstError l D hA hC) (cwV 0 hts gL_law_X4_firstError rfl rfl rfl (by decide +kernel) ⟨by decide, by decide⟩) hK hN hZ hP hD hS [0, 1] rfl hrc rfl rfl hl.1 rfl (Nat.le_of_ble_eq_true rfl) ⟨by show _ ≤ 601181; omega, by show _ ≤ 7292561; omega⟩ dL_law_740 (fun v9 w9 H locs hp9 hP hD hS => ?_)
  obtain ⟨td, rL, AL, rfl, hspL, hCL⟩ := hp9
  refine W.eq (g2 := F0 m 743 ls [.int rL]) rfl ?_
  refine lv_aload_n hx hb dL_law_743 rfl (lv_at hl 2 rfl) ?_
  obtain ⟨fsm, hrm⟩ := mdP_rec hM
  refine lc_M (As := []) (rest := [.int rL]) ⟨hx, hb, hml, hown, hts⟩ (k_X5_firstError l D hA hM td) (cwV 0 hts gL_law_X5_firstError rfl rfl rfl (by decide +kernel) ⟨by decide, by decide⟩) hK hN hZ hP hD hS [0] rfl hrm rfl rfl hl.1 rfl (Nat.le_of_ble_eq_true rfl) ⟨by show _ ≤ 601181; omega, by show _ ≤ 7292561; omega⟩ dL_law_744 (fun v9 w9 H locs hp9 hP hD hS => ?_)
  obtain ⟨tM, rM, AM, rfl, hspM, hMM⟩ := hp9
  obtain ⟨rfl, rfl, rfl⟩ : 0 = tM ∧ rL = rM ∧ AL = AM := by have h9 := hspL.symm.trans hspM; simp only [Prod.mk.injEq] at h9; exact h9
  have hA9 : aOK AL := by have h9 : A = AL := (Prod.mk.inj (Prod.mk.inj hspL).2).2; rw [← h9]; exact hA
  refine W.eq (g2 := F0 m 747 ls [.int rL, .int rL]) rfl ?_
  refine lv_icmp_eq (tgt := 1373) hx hb dL_law_747 (by decide) (fun _ => ?_) (fun hne => absurd rfl hne)
  refine W.widen (k := cells + 1) (n := slots + 6) (by omega) (by omega) ?_
  exact kk AL 0 _ _ g H locs ls hA9 hCL hMM hP hD hS (lv_sub hl [0, 1, 2, 3, 4] rfl)
set_option maxHeartbeats 2000000 in
set_option maxRecDepth 100000 in
theorem law_12 {p : Program} {l : Launch} {e : Env} {s : State} {m : MethodId} {below : List Frame} {meth : Method} {c : Code} {b L : Nat} {xs : Nat → Int32} {D : va_G} {ox op xO xW xN xC xA xM xG xT xH xR xF xB xX ob oc oh hc hp ot yc yt ol om uS uV uB uT uA uP uR : Nat} {cI cZ cJ : ClassId} {Q : State → Prop} (F : LcF p l s m c b L xs D cI cZ cJ) {i : Nat} (hi : i + 6 ≤ L) (hL : L ≤ 3072) {A : AS} {t : Int32} {wc wm : va_W} {g : Nat → Int64} (hA : aOK A) (hC : ClP ox op xO xW xN xC xA xM xG xT xH xR xF xB xX ob oc oh hc hp ot yc yt cI cZ A wc) (hM : MdP om uS uV uB uT uA uP uR cI t A wm) {H : Heap} {locs : List Loc} {ls : Array Slot} (hP : va_P D vwCl (Wl wc cJ ol g wm) H) (hD : va_D (fun q : Nat => s.heap.size ≤ q) (Wl wc cJ ol g wm)) (hS : va_S (fun q : Nat => s.heap.size ≤ q) s.heap H locs) (hl : lv_has ls 9 [(4, .int (nI i)), (3, .ref ol), (2, .ref om), (1, .ref ox), (0, .ref b)]) {cells slots : Nat} (hc1 : cells + 1 ≤ 601181) (hs1 : slots + 6 ≤ 7292561) (kk : ∀ (A9 : AS) (t9 : Int32) (wc9 wm9 : va_W) (g9 : Nat → Int64) (H9 : Heap) (locs9 : List Loc) (ls9 : Array Slot), aOK A9 → ClP ox op xO xW xN xC xA xM xG xT xH xR xF xB xX ob oc oh hc hp ot yc yt cI cZ A9 wc9 → MdP om uS uV uB uT uA uP uR cI t9 A9 wm9 → va_P D vwCl (Wl wc9 cJ ol g9 wm9) H9 → va_D (fun q : Nat => s.heap.size ≤ q) (Wl wc9 cJ ol g9 wm9) → va_S (fun q : Nat => s.heap.size ≤ q) s.heap H9 locs9 → lv_has ls9 9 [(4, .int (nI i)), (3, .ref ol), (2, .ref om), (1, .ref ox), (0, .ref b)] → W p l e room_1 s m #[Value.ref b] below meth c H9 locs9 (cells + 1) (slots + 6) Q (F0 m 1373 ls9 [])) : W p l e room_1 s m #[Value.ref b] below meth c H locs cells slots Q (F0 m 752 ls []) := by
  obtain ⟨hfl, hx, hb, hml, hown, hts, hX, hbl, hK, hN, hZ, hT⟩ := F
  have hbA : ¬ (fun q : Nat => s.heap.size ≤ q) b := Nat.not_le.mpr hbl
  refine lv_aload_n hx hb dL_law_752 rfl (lv_at hl 3 rfl) ?_
  refine lv_aload_n hx hb dL_law_753 rfl (lv_at hl 1 rfl) ?_
  refine lc_L (As := [.ref ox, .ref ol]) (rest := []) ⟨hx, hb, hml, hown, hts⟩ (k_L_read l hfl D hA hC) (vx_cwSW 2 hts gL_law_L_read rfl rfl rfl (by decide +kernel) ⟨by decide, by decide⟩) hK hN hZ hT hP hD hS [0, 1, 2] rfl rfl hl.1 rfl (Nat.le_of_ble_eq_true rfl) ⟨hc1, hs1⟩ dL_law_754 (fun v9 w9 H locs hp9 hP hD hS => ?_)
  obtain ⟨td, kL, rL, AL, gL, wcL, rfl, hspL, hgL, hCL, rfl⟩ := hp9
  have hP : va_P D vwCl (Wl wcL cJ ol gL wm) H := hP
  have hD : va_D (fun q : Nat => s.heap.size ≤ q) (Wl wcL cJ ol gL wm) := hD
  refine W.eq (g2 := F0 m 757 ls [.int kL]) rfl ?_
  refine lv_istore (lv' := [(5, .int kL), (4, .int (nI i)), (3, .ref ol), (2, .ref om), (1, .ref ox), (0, .ref b)]) hx hb dL_law_757 hl (by decide) rfl (fun ls hl => ?_)
  refine lv_aload_n hx hb dL_law_759 rfl (lv_at hl 3 rfl) ?_
  obtain ⟨fsm, hrm⟩ := mdP_rec hM
  refine lc_M (As := []) (rest := []) ⟨hx, hb, hml, hown, hts⟩ (k_X5_read l D hA hM td) (cwV 0 hts gL_law_X5_read rfl rfl rfl (by decide +kernel) ⟨by decide, by decide⟩) hK hN hZ hP hD hS [0] rfl hrm rfl rfl hl.1 rfl (Nat.le_of_ble_eq_true rfl) ⟨by show _ ≤ 601181; omega, by show _ ≤ 7292561; omega⟩ dL_law_760 (fun v9 w9 H locs hp9 hP hD hS => ?_)
  obtain ⟨tM, rM, AM, rfl, hspM, hMM⟩ := hp9
  obtain ⟨rfl, rfl, rfl⟩ : kL = tM ∧ rL = rM ∧ AL = AM := by have h9 := hspL.symm.trans hspM; simp only [Prod.mk.injEq] at h9; exact h9
  have hA9 : aOK AL := by have h9 : aOK (spRead A td).2.2 := ok_read hA; rw [hspL] at h9; exact h9
  refine W.eq (g2 := F0 m 763 ls [.int rL]) rfl ?_
  refine lv_istore (lv' := [(6, .int rL), (5, .int kL), (4, .int (nI i)), (3, .ref ol), (2, .ref om), (1, .ref ox), (0, .ref b)]) hx hb dL_law_763 hl (by decide) rfl (fun ls hl => ?_)
  refine lv_aload_n hx hb dL_law_765 rfl (lv_at hl 4 rfl) ?_
  obtain ⟨fsm, hrm⟩ := mdP_rec hMM
  refine lc_M (As := []) (rest := []) ⟨hx, hb, hml, hown, hts⟩ (k_X5_thrown l D hMM) (cwV 0 hts gL_law_X5_thrown rfl rfl rfl (by decide +kernel) ⟨by decide, by decide⟩) hK hN hZ hP hD hS [0] rfl hrm rfl rfl hl.1 rfl (Nat.le_of_ble_eq_true rfl) ⟨by show _ ≤ 601181; omega, by show _ ≤ 7292561; omega⟩ dL_law_766 (fun v9 w9 H locs hp9 hP hD hS => ?_)
  obtain ⟨rfl, hMT⟩ := hp9
  refine W.eq (g2 := F0 m 769 ls [.int kL]) rfl ?_
  refine lv_iload hx hb dL_law_769 (lv_at hl 1 rfl) ?_
  refine lv_icmp_eq (tgt := 776) hx hb dL_law_771 (by decide) (fun _ => ?_) (fun hne => absurd rfl hne)
  refine lv_iload hx hb dL_law_776 (lv_at hl 1 rfl) ?_
  refine lv_if_ne (tgt := 793) hx hb dL_law_778 (by decide) (fun _ => ?_) (fun hk0 => ?_)
  · refine lv_goto (tgt := 1373) hx hb dL_law_793 (by decide) ?_
    exact kk AL kL wcL w9 gL H locs ls hA9 hCL hMT hP hD hS (lv_sub hl [2, 3, 4, 5, 6] rfl)
  · refine lv_aload_n hx hb dL_law_781 rfl (lv_at hl 3 rfl) ?_
    refine lv_iconst (v := 0) hx hb dL_law_782 (by decide) ?_
    refine lc_ld hx hb hK hP 2 rfl dL_law_783 ?_
    refine lv_iload hx hb dL_law_784 (lv_at hl 0 rfl) ?_
    refine lv_i2l (v := (rL : Int32).toInt64) hx hb dL_law_786 rfl ?_
    refine lv_lcmp_eq hx hb (hgL hk0) dL_law_787 ?_
    refine lv_if_eq (tgt := 793) hx hb dL_law_788 (by decide) (fun _ => ?_) (fun hne => absurd rfl hne)
    refine lv_goto (tgt := 1373) hx hb dL_law_793 (by decide) ?_
    exact kk AL kL wcL w9 gL H locs ls hA9 hCL hMT hP hD hS (lv_sub hl [2, 3, 4, 5, 6] rfl)
set_option maxHeartbeats 2000000 in
set_option maxRecDepth 100000 in
theorem law_13 {p : Program} {l : Launch} {e : Env} {s : State} {m : MethodId} {below : List Frame} {meth : Method} {c : Code} {b L : Nat} {xs : Nat → Int32} {D : va_G} {ox op xO xW xN xC xA xM xG xT xH xR xF xB xX ob oc oh hc hp ot yc yt ol om uS uV uB uT uA uP uR : Nat} {cI cZ cJ : ClassId} {Q : State → Prop} (F : LcF p l s m c b L xs D cI cZ cJ) {i : Nat} (hi : i + 6 ≤ L) (hL : L ≤ 3072) {A : AS} {t : Int32} {wc wm : va_W} {g : Nat → Int64} (hA : aOK A) (hC : ClP ox op xO xW xN xC xA xM xG xT xH xR xF xB xX ob oc oh hc hp ot yc yt cI cZ A wc) (hM : MdP om uS uV uB uT uA uP uR cI t A wm) {H : Heap} {locs : List Loc} {ls : Array Slot} (hP : va_P D vwCl (Wl wc cJ ol g wm) H) (hD : va_D (fun q : Nat => s.heap.size ≤ q) (Wl wc cJ ol g wm)) (hS : va_S (fun q : Nat => s.heap.size ≤ q) s.heap H locs) (hl : lv_has ls 9 [(4, .int (nI i)), (3, .ref ol), (2, .ref om), (1, .ref ox), (0, .ref b)]) {cells slots : Nat} (hc1 : cells + 1 ≤ 601181) (hs1 : slots + 6 ≤ 7292561) (kk : ∀ (A9 : AS) (t9 : Int32) (wc9 wm9 : va_W) (g9 : Nat → Int64) (H9 : Heap) (locs9 : List Loc) (ls9 : Array Slot), aOK A9 → ClP ox op xO xW xN xC xA xM xG xT xH xR xF xB xX ob oc oh hc hp ot yc yt cI cZ A9 wc9 → MdP om uS uV uB uT uA uP uR cI t9 A9 wm9 → va_P D vwCl (Wl wc9 cJ ol g9 wm9) H9 → va_D (fun q : Nat => s.heap.size ≤ q) (Wl wc9 cJ ol g9 wm9) → va_S (fun q : Nat => s.heap.size ≤ q) s.heap H9 locs9 → lv_has ls9 9 [(4, .int (nI i)), (3, .ref ol), (2, .ref om), (1, .ref ox), (0, .ref b)] → W p l e room_1 s m #[Value.ref b] below meth c H9 locs9 (cells + 1) (slots + 6) Q (F0 m 1373 ls9 [])) : W p l e room_1 s m #[Value.ref b] below meth c H locs cells slots Q (F0 m 796 ls []) := by
  obtain ⟨hfl, hx, hb, hml, hown, hts, hX, hbl, hK, hN, hZ, hT⟩ := F
  have hbA : ¬ (fun q : Nat => s.heap.size ≤ q) b := Nat.not_le.mpr hbl
  refine lv_aload_n hx hb dL_law_796 rfl (lv_at hl 3 rfl) ?_
  refine lv_aload_n hx hb dL_law_797 rfl (lv_at hl 1 rfl) ?_
  refine lc_L (As := [.ref ox, .ref ol]) (rest := []) ⟨hx, hb, hml, hown, hts⟩ (k_L_undo l hfl D hA hC) (vx_cwSW 2 hts gL_law_L_undo rfl rfl rfl (by decide +kernel) ⟨by decide, by decide⟩) hK hN hZ hT hP hD hS [0, 1, 2] rfl rfl hl.1 rfl (Nat.le_of_ble_eq_true rfl) ⟨hc1, hs1⟩ dL_law_798 (fun v9 w9 H locs hp9 hP hD hS => ?_)
  obtain ⟨kL, rL, AL, gL, wcL, rfl, hspL, hgL, hCL, rfl⟩ := hp9
  have hP : va_P D vwCl (Wl wcL cJ ol gL wm) H := hP
  have hD : va_D (fun q : Nat => s.heap.size ≤ q) (Wl wcL cJ ol gL wm) := hD
  refine W.eq (g2 := F0 m 801 ls [.int kL]) rfl ?_
  refine lv_istore (lv' := [(5, .int kL), (4, .int (nI i)), (3, .ref ol), (2, .ref om), (1, .ref ox), (0, .ref b)]) hx hb dL_law_801 hl (by decide) rfl (fun ls hl => ?_)
  refine lv_aload_n hx hb dL_law_803 rfl (lv_at hl 3 rfl) ?_
  obtain ⟨fsm, hrm⟩ := mdP_rec hM
  refine lc_M (As := []) (rest := []) ⟨hx, hb, hml, hown, hts⟩ (k_X5_undo l D hA hM) (cwV 0 hts gL_law_X5_undo rfl rfl rfl (by decide +kernel) ⟨by decide, by decide⟩) hK hN hZ hP hD hS [0] rfl hrm rfl rfl hl.1 rfl (Nat.le_of_ble_eq_true rfl) ⟨by show _ ≤ 601181; omega, by show _ ≤ 7292561; omega⟩ dL_law_804 (fun v9 w9 H locs hp9 hP hD hS => ?_)
  obtain ⟨tM, rM, AM, rfl, hspM, hMM⟩ := hp9
  obtain ⟨rfl, rfl, rfl⟩ : kL = tM ∧ rL = rM ∧ AL = AM := by have h9 := hspL.symm.trans hspM; simp only [Prod.mk.injEq] at h9; exact h9
  have hA9 : aOK AL := by have h9 : aOK (spUndo A).2.2 := ok_undo hA; rw [hspL] at h9; exact h9
  refine W.eq (g2 := F0 m 807 ls [.int rL]) rfl ?_
  refine lv_istore (lv' := [(6, .int rL), (5, .int kL), (4, .int (nI i)), (3, .ref ol), (2, .ref om), (1, .ref ox), (0, .ref b)]) hx hb dL_law_807 hl (by decide) rfl (fun ls hl => ?_)
  refine lv_aload_n hx hb dL_law_809 rfl (lv_at hl 4 rfl) ?_
  obtain ⟨fsm, hrm⟩ := mdP_rec hMM
  refine lc_M (As := []) (rest := []) ⟨hx, hb, hml, hown, hts⟩ (k_X5_thrown l D hMM) (cwV 0 hts gL_law_X5_thrown rfl rfl rfl (by decide +kernel) ⟨by decide, by decide⟩) hK hN hZ hP hD hS [0] rfl hrm rfl rfl hl.1 rfl (Nat.le_of_ble_eq_true rfl) ⟨by show _ ≤ 601181; omega, by show _ ≤ 7292561; omega⟩ dL_law_810 (fun v9 w9 H locs hp9 hP hD hS => ?_)
  obtain ⟨rfl, hMT⟩ := hp9
  refine W.eq (g2 := F0 m 813 ls [.int kL]) rfl ?_
  refine lv_iload hx hb dL_law_813 (lv_at hl 1 rfl) ?_
  refine lv_icmp_eq (tgt := 820) hx hb dL_law_815 (by decide) (fun _ => ?_) (fun hne => absurd rfl hne)
  refine lv_iload hx hb dL_law_820 (lv_at hl 1 rfl) ?_
  refine lv_if_ne (tgt := 837) hx hb dL_law_822 (by decide) (fun _ => ?_) (fun hk0 => ?_)
  · refine lv_goto (tgt := 1373) hx hb dL_law_837 (by decide) ?_
    exact kk AL kL wcL w9 gL H locs ls hA9 hCL hMT hP hD hS (lv_sub hl [2, 3, 4, 5, 6] rfl)
  · refine lv_aload_n hx hb dL_law_825 rfl (lv_at hl 3 rfl) ?_
    refine lv_iconst (v := 0) hx hb dL_law_826 (by decide) ?_
    refine lc_ld hx hb hK hP 2 rfl dL_law_827 ?_
    refine lv_iload hx hb dL_law_828 (lv_at hl 0 rfl) ?_
    refine lv_i2l (v := (rL : Int32).toInt64) hx hb dL_law_830 rfl ?_
    refine lv_lcmp_eq hx hb (hgL hk0) dL_law_831 ?_
    refine lv_if_eq (tgt := 837) hx hb dL_law_832 (by decide) (fun _ => ?_) (fun hne => absurd rfl hne)
    refine lv_goto (tgt := 1373) hx hb dL_law_837 (by decide) ?_
    exact kk AL kL wcL w9 gL H locs ls hA9 hCL hMT hP hD hS (lv_sub hl [2, 3, 4, 5, 6] rfl)
set_option maxHeartbeats 2000000 in
set_option maxRecDepth 100000 in
theorem law_14 {p : Program} {l : Launch} {e : Env} {s : State} {m : MethodId} {below : List Frame} {meth : Method} {c : Code} {b L : Nat} {xs : Nat → Int32} {D : va_G} {ox op xO xW xN xC xA xM xG xT xH xR xF xB xX ob oc oh hc hp ot yc yt ol om uS uV uB uT uA uP uR : Nat} {cI cZ cJ : ClassId} {Q : State → Prop} (F : LcF p l s m c b L xs D cI cZ cJ) {i : Nat} (hi : i + 6 ≤ L) (hL : L ≤ 3072) {A : AS} {t : Int32} {wc wm : va_W} {g : Nat → Int64} (hA : aOK A) (hC : ClP ox op xO xW xN xC xA xM xG xT xH xR xF xB xX ob oc oh hc hp ot yc yt cI cZ A wc) (hM : MdP om uS uV uB uT uA uP uR cI t A wm) {H : Heap} {locs : List Loc} {ls : Array Slot} (hP : va_P D vwCl (Wl wc cJ ol g wm) H) (hD : va_D (fun q : Nat => s.heap.size ≤ q) (Wl wc cJ ol g wm)) (hS : va_S (fun q : Nat => s.heap.size ≤ q) s.heap H locs) (hl : lv_has ls 9 [(4, .int (nI i)), (3, .ref ol), (2, .ref om), (1, .ref ox), (0, .ref b)]) {cells slots : Nat} (hc1 : cells + 1 ≤ 601181) (hs1 : slots + 6 ≤ 7292561) (kk : ∀ (A9 : AS) (t9 : Int32) (wc9 wm9 : va_W) (g9 : Nat → Int64) (H9 : Heap) (locs9 : List Loc) (ls9 : Array Slot), aOK A9 → ClP ox op xO xW xN xC xA xM xG xT xH xR xF xB xX ob oc oh hc hp ot yc yt cI cZ A9 wc9 → MdP om uS uV uB uT uA uP uR cI t9 A9 wm9 → va_P D vwCl (Wl wc9 cJ ol g9 wm9) H9 → va_D (fun q : Nat => s.heap.size ≤ q) (Wl wc9 cJ ol g9 wm9) → va_S (fun q : Nat => s.heap.size ≤ q) s.heap H9 locs9 → lv_has ls9 9 [(4, .int (nI i)), (3, .ref ol), (2, .ref om), (1, .ref ox), (0, .ref b)] → W p l e room_1 s m #[Value.ref b] below meth c H9 locs9 (cells + 1) (slots + 6) Q (F0 m 1373 ls9 [])) : W p l e room_1 s m #[Value.ref b] below meth c H locs cells slots Q (F0 m 840 ls []) := by
  obtain ⟨hfl, hx, hb, hml, hown, hts, hX, hbl, hK, hN, hZ, hT⟩ := F
  have hbA : ¬ (fun q : Nat => s.heap.size ≤ q) b := Nat.not_le.mpr hbl
  refine lv_aload_n hx hb dL_law_840 rfl (lv_at hl 3 rfl) ?_
  refine lv_aload_n hx hb dL_law_841 rfl (lv_at hl 4 rfl) ?_
  refine lv_iload hx hb dL_law_842 (lv_at hl 0 rfl) ?_
  refine lv_iconst (v := 1) hx hb dL_law_844 (by decide) ?_
  refine lv_iadd hx hb dL_law_845 ?_
  refine lv_asi (y := nI (i + 1)) (nI_add i 1) ?_
  refine va_sld hx hb hX hbl hbA hS (vp_in_nI (by omega) (by omega)) dL_law_846 ?_
  refine lv_aload_n hx hb dL_law_847 rfl (lv_at hl 4 rfl) ?_
  refine lv_iload hx hb dL_law_848 (lv_at hl 0 rfl) ?_
  refine lv_iconst (v := 2) hx hb dL_law_850 (by decide) ?_
  refine lv_iadd hx hb dL_law_851 ?_
  refine lv_asi (y := nI (i + 2)) (nI_add i 2) ?_
  refine va_sld hx hb hX hbl hbA hS (vp_in_nI (by omega) (by omega)) dL_law_852 ?_
  refine lv_aload_n hx hb dL_law_853 rfl (lv_at hl 1 rfl) ?_
  refine lc_L (As := [.ref ox, .int (xs (nI (i + 1)).toNatClampNeg), .int (xs (nI (i + 2)).toNatClampNeg), .ref ol]) (rest := []) ⟨hx, hb, hml, hown, hts⟩ (k_L_point l hfl D hA hC (xs (nI (i + 1)).toNatClampNeg) (xs (nI (i + 2)).toNatClampNeg)) (vx_cwSW 4 hts gL_law_L_point rfl rfl rfl (by decide +kernel) ⟨by decide, by decide⟩) hK hN hZ hT hP hD hS [0, 1, 2] rfl rfl hl.1 rfl (Nat.le_of_ble_eq_true rfl) ⟨hc1, hs1⟩ dL_law_854 (fun v9 w9 H locs hp9 hP hD hS => ?_)
  obtain ⟨kL, rL, AL, gL, wcL, rfl, hspL, hgL, hCL, rfl⟩ := hp9
  have hP : va_P D vwCl (Wl wcL cJ ol gL wm) H := hP
  have hD : va_D (fun q : Nat => s.heap.size ≤ q) (Wl wcL cJ ol gL wm) := hD
  refine W.eq (g2 := F0 m 857 ls [.int kL]) rfl ?_
  refine lv_istore (lv' := [(5, .int kL), (4, .int (nI i)), (3, .ref ol), (2, .ref om), (1, .ref ox), (0, .ref b)]) hx hb dL_law_857 hl (by decide) rfl (fun ls hl => ?_)
  refine lv_aload_n hx hb dL_law_859 rfl (lv_at hl 3 rfl) ?_
  refine lv_aload_n hx hb dL_law_860 rfl (lv_at hl 5 rfl) ?_
  refine lv_iload hx hb dL_law_861 (lv_at hl 1 rfl) ?_
  refine lv_iconst (v := 1) hx hb dL_law_863 (by decide) ?_
  refine lv_iadd hx hb dL_law_864 ?_
  refine lv_asi (y := nI (i + 1)) (nI_add i 1) ?_
  refine va_sld hx hb hX hbl hbA hS (vp_in_nI (by omega) (by omega)) dL_law_865 ?_
  refine lv_aload_n hx hb dL_law_866 rfl (lv_at hl 5 rfl) ?_
  refine lv_iload hx hb dL_law_867 (lv_at hl 1 rfl) ?_
  refine lv_iconst (v := 2) hx hb dL_law_869 (by decide) ?_
  refine lv_iadd hx hb dL_law_870 ?_
  refine lv_asi (y := nI (i + 2)) (nI_add i 2) ?_
  refine va_sld hx hb hX hbl hbA hS (vp_in_nI (by omega) (by omega)) dL_law_871 ?_
  obtain ⟨fsm, hrm⟩ := mdP_rec hM
  refine lc_M (As := [.int (xs (nI (i + 1)).toNatClampNeg), .int (xs (nI (i + 2)).toNatClampNeg)]) (rest := []) ⟨hx, hb, hml, hown, hts⟩ (k_X5_point l D hA hM (xs (nI (i + 1)).toNatClampNeg) (xs (nI (i + 2)).toNatClampNeg)) (cwV 2 hts gL_law_X5_point rfl rfl rfl (by decide +kernel) ⟨by decide, by decide⟩) hK hN hZ hP hD hS [0] rfl hrm rfl rfl hl.1 rfl (Nat.le_of_ble_eq_true rfl) ⟨by show _ ≤ 601181; omega, by show _ ≤ 7292561; omega⟩ dL_law_872 (fun v9 w9 H locs hp9 hP hD hS => ?_)
  obtain ⟨tM, rM, AM, rfl, hspM, hMM⟩ := hp9
  obtain ⟨rfl, rfl, rfl⟩ : kL = tM ∧ rL = rM ∧ AL = AM := by have h9 := hspL.symm.trans hspM; simp only [Prod.mk.injEq] at h9; exact h9
  have hA9 : aOK AL := by have h9 : aOK (spPoint A (xs (nI (i + 1)).toNatClampNeg) (xs (nI (i + 2)).toNatClampNeg)).2.2 := ok_point hA; rw [hspL] at h9; exact h9
  refine W.eq (g2 := F0 m 875 ls [.int rL]) rfl ?_
  refine lv_istore (lv' := [(6, .int rL), (5, .int kL), (4, .int (nI i)), (3, .ref ol), (2, .ref om), (1, .ref ox), (0, .ref b)]) hx hb dL_law_875 hl (by decide) rfl (fun ls hl => ?_)
  refine lv_aload_n hx hb dL_law_877 rfl (lv_at hl 4 rfl) ?_
  obtain ⟨fsm, hrm⟩ := mdP_rec hMM
  refine lc_M (As := []) (rest := []) ⟨hx, hb, hml, hown, hts⟩ (k_X5_thrown l D hMM) (cwV 0 hts gL_law_X5_thrown rfl rfl rfl (by decide +kernel) ⟨by decide, by decide⟩) hK hN hZ hP hD hS [0] rfl hrm rfl rfl hl.1 rfl (Nat.le_of_ble_eq_true rfl) ⟨by show _ ≤ 601181; omega, by show _ ≤ 7292561; omega⟩ dL_law_878 (fun v9 w9 H locs hp9 hP hD hS => ?_)
  obtain ⟨rfl, hMT⟩ := hp9
  refine W.eq (g2 := F0 m 881 ls [.int kL]) rfl ?_
  refine lv_iload hx hb dL_law_881 (lv_at hl 1 rfl) ?_
  refine lv_icmp_eq (tgt := 888) hx hb dL_law_883 (by decide) (fun _ => ?_) (fun hne => absurd rfl hne)
  refine lv_iload hx hb dL_law_888 (lv_at hl 1 rfl) ?_
  refine lv_if_ne (tgt := 905) hx hb dL_law_890 (by decide) (fun _ => ?_) (fun hk0 => ?_)
  · refine lv_goto (tgt := 1373) hx hb dL_law_905 (by decide) ?_
    exact kk AL kL wcL w9 gL H locs ls hA9 hCL hMT hP hD hS (lv_sub hl [2, 3, 4, 5, 6] rfl)
  · refine lv_aload_n hx hb dL_law_893 rfl (lv_at hl 3 rfl) ?_
    refine lv_iconst (v := 0) hx hb dL_law_894 (by decide) ?_
    refine lc_ld hx hb hK hP 2 rfl dL_law_895 ?_
    refine lv_iload hx hb dL_law_896 (lv_at hl 0 rfl) ?_
    refine lv_i2l (v := (rL : Int32).toInt64) hx hb dL_law_898 rfl ?_
    refine lv_lcmp_eq hx hb (hgL hk0) dL_law_899 ?_
    refine lv_if_eq (tgt := 905) hx hb dL_law_900 (by decide) (fun _ => ?_) (fun hne => absurd rfl hne)
    refine lv_goto (tgt := 1373) hx hb dL_law_905 (by decide) ?_
    exact kk AL kL wcL w9 gL H locs ls hA9 hCL hMT hP hD hS (lv_sub hl [2, 3, 4, 5, 6] rfl)
set_option maxHeartbeats 2000000 in
set_option maxRecDepth 100000 in
theorem law_15 {p : Program} {l : Launch} {e : Env} {s : State} {m : MethodId} {below : List Frame} {meth : Method} {c : Code} {b L : Nat} {xs : Nat → Int32} {D : va_G} {ox op xO xW xN xC xA xM xG xT xH xR xF xB xX ob oc oh hc hp ot yc yt ol om uS uV uB uT uA uP uR : Nat} {cI cZ cJ : ClassId} {Q : State → Prop} (F : LcF p l s m c b L xs D cI cZ cJ) {i : Nat} (hi : i + 6 ≤ L) (hL : L ≤ 3072) {A : AS} {t : Int32} {wc wm : va_W} {g : Nat → Int64} (hA : aOK A) (hC : ClP ox op xO xW xN xC xA xM xG xT xH xR xF xB xX ob oc oh hc hp ot yc yt cI cZ A wc) (hM : MdP om uS uV uB uT uA uP uR cI t A wm) {H : Heap} {locs : List Loc} {ls : Array Slot} (hP : va_P D vwCl (Wl wc cJ ol g wm) H) (hD : va_D (fun q : Nat => s.heap.size ≤ q) (Wl wc cJ ol g wm)) (hS : va_S (fun q : Nat => s.heap.size ≤ q) s.heap H locs) (hl : lv_has ls 9 [(4, .int (nI i)), (3, .ref ol), (2, .ref om), (1, .ref ox), (0, .ref b)]) {cells slots : Nat} (hc1 : cells + 1 ≤ 601181) (hs1 : slots + 6 ≤ 7292561) (kk : ∀ (A9 : AS) (t9 : Int32) (wc9 wm9 : va_W) (g9 : Nat → Int64) (H9 : Heap) (locs9 : List Loc) (ls9 : Array Slot), aOK A9 → ClP ox op xO xW xN xC xA xM xG xT xH xR xF xB xX ob oc oh hc hp ot yc yt cI cZ A9 wc9 → MdP om uS uV uB uT uA uP uR cI t9 A9 wm9 → va_P D vwCl (Wl wc9 cJ ol g9 wm9) H9 → va_D (fun q : Nat => s.heap.size ≤ q) (Wl wc9 cJ ol g9 wm9) → va_S (fun q : Nat => s.heap.size ≤ q) s.heap H9 locs9 → lv_has ls9 9 [(4, .int (nI i)), (3, .ref ol), (2, .ref om), (1, .ref ox), (0, .ref b)] → W p l e room_1 s m #[Value.ref b] below meth c H9 locs9 (cells + 1) (slots + 6) Q (F0 m 1373 ls9 [])) : W p l e room_1 s m #[Value.ref b] below meth c H locs cells slots Q (F0 m 908 ls []) := by
  obtain ⟨hfl, hx, hb, hml, hown, hts, hX, hbl, hK, hN, hZ, hT⟩ := F
  have hbA : ¬ (fun q : Nat => s.heap.size ≤ q) b := Nat.not_le.mpr hbl
  refine lv_aload_n hx hb dL_law_908 rfl (lv_at hl 3 rfl) ?_
  refine lv_aload_n hx hb dL_law_909 rfl (lv_at hl 4 rfl) ?_
  refine lv_iload hx hb dL_law_910 (lv_at hl 0 rfl) ?_
  refine lv_iconst (v := 1) hx hb dL_law_912 (by decide) ?_
  refine lv_iadd hx hb dL_law_913 ?_
  refine lv_asi (y := nI (i + 1)) (nI_add i 1) ?_
  refine va_sld hx hb hX hbl hbA hS (vp_in_nI (by omega) (by omega)) dL_law_914 ?_
  refine lv_aload_n hx hb dL_law_915 rfl (lv_at hl 4 rfl) ?_
  refine lv_iload hx hb dL_law_916 (lv_at hl 0 rfl) ?_
  refine lv_iconst (v := 2) hx hb dL_law_918 (by decide) ?_
  refine lv_iadd hx hb dL_law_919 ?_
  refine lv_asi (y := nI (i + 2)) (nI_add i 2) ?_
  refine va_sld hx hb hX hbl hbA hS (vp_in_nI (by omega) (by omega)) dL_law_920 ?_
  refine lv_aload_n hx hb dL_law_921 rfl (lv_at hl 4 rfl) ?_
  refine lv_iload hx hb dL_law_922 (lv_at hl 0 rfl) ?_
  refine lv_iconst (v := 3) hx hb dL_law_924 (by decide) ?_
  refine lv_iadd hx hb dL_law_925 ?_
  refine lv_asi (y := nI (i + 3)) (nI_add i 3) ?_
  refine va_sld hx hb hX hbl hbA hS (vp_in_nI (by omega) (by omega)) dL_law_926 ?_
  refine lv_aload_n hx hb dL_law_927 rfl (lv_at hl 4 rfl) ?_
  refine lv_iload hx hb dL_law_928 (lv_at hl 0 rfl) ?_
  refine lv_iconst (v := 4) hx hb dL_law_930 (by decide) ?_
  refine lv_iadd hx hb dL_law_931 ?_
  refine lv_asi (y := nI (i + 4)) (nI_add i 4) ?_
  refine va_sld hx hb hX hbl hbA hS (vp_in_nI (by omega) (by omega)) dL_law_932 ?_
  refine lv_aload_n hx hb dL_law_933 rfl (lv_at hl 1 rfl) ?_
  refine lc_L (As := [.ref ox, .int (xs (nI (i + 1)).toNatClampNeg), .int (xs (nI (i + 2)).toNatClampNeg), .int (xs (nI (i + 3)).toNatClampNeg), .int (xs (nI (i + 4)).toNatClampNeg), .ref ol]) (rest := []) ⟨hx, hb, hml, hown, hts⟩ (k_L_clash l hfl D hA hC (xs (nI (i + 1)).toNatClampNeg) (xs (nI (i + 2)).toNatClampNeg) (xs (nI (i + 3)).toNatClampNeg) (xs (nI (i + 4)).toNatClampNeg)) (vx_cwSW 6 hts gL_law_L_clash rfl rfl rfl (by decide +kernel) ⟨by decide, by decide⟩) hK hN hZ hT hP hD hS [0, 1, 2] rfl rfl hl.1 rfl (Nat.le_of_ble_eq_true rfl) ⟨hc1, hs1⟩ dL_law_934 (fun v9 w9 H locs hp9 hP hD hS => ?_)
  obtain ⟨kL, rL, AL, gL, wcL, rfl, hspL, hgL, hCL, rfl⟩ := hp9
  have hP : va_P D vwCl (Wl wcL cJ ol gL wm) H := hP
  have hD : va_D (fun q : Nat => s.heap.size ≤ q) (Wl wcL cJ ol gL wm) := hD
  refine W.eq (g2 := F0 m 937 ls [.int kL]) rfl ?_
  refine lv_istore (lv' := [(5, .int kL), (4, .int (nI i)), (3, .ref ol), (2, .ref om), (1, .ref ox), (0, .ref b)]) hx hb dL_law_937 hl (by decide) rfl (fun ls hl => ?_)
  refine lv_aload_n hx hb dL_law_939 rfl (lv_at hl 3 rfl) ?_
  refine lv_aload_n hx hb dL_law_940 rfl (lv_at hl 5 rfl) ?_
  refine lv_iload hx hb dL_law_941 (lv_at hl 1 rfl) ?_
  refine lv_iconst (v := 1) hx hb dL_law_943 (by decide) ?_
  refine lv_iadd hx hb dL_law_944 ?_
  refine lv_asi (y := nI (i + 1)) (nI_add i 1) ?_
  refine va_sld hx hb hX hbl hbA hS (vp_in_nI (by omega) (by omega)) dL_law_945 ?_
  refine lv_aload_n hx hb dL_law_946 rfl (lv_at hl 5 rfl) ?_
  refine lv_iload hx hb dL_law_947 (lv_at hl 1 rfl) ?_
  refine lv_iconst (v := 2) hx hb dL_law_949 (by decide) ?_
  refine lv_iadd hx hb dL_law_950 ?_
  refine lv_asi (y := nI (i + 2)) (nI_add i 2) ?_
  refine va_sld hx hb hX hbl hbA hS (vp_in_nI (by omega) (by omega)) dL_law_951 ?_
  refine lv_aload_n hx hb dL_law_952 rfl (lv_at hl 5 rfl) ?_
  refine lv_iload hx hb dL_law_953 (lv_at hl 1 rfl) ?_
  refine lv_iconst (v := 3) hx hb dL_law_955 (by decide) ?_
  refine lv_iadd hx hb dL_law_956 ?_
  refine lv_asi (y := nI (i + 3)) (nI_add i 3) ?_
  refine va_sld hx hb hX hbl hbA hS (vp_in_nI (by omega) (by omega)) dL_law_957 ?_
  refine lv_aload_n hx hb dL_law_958 rfl (lv_at hl 5 rfl) ?_
  refine lv_iload hx hb dL_law_959 (lv_at hl 1 rfl) ?_
  refine lv_iconst (v := 4) hx hb dL_law_961 (by decide) ?_
  refine lv_iadd hx hb dL_law_962 ?_
  refine lv_asi (y := nI (i + 4)) (nI_add i 4) ?_
  refine va_sld hx hb hX hbl hbA hS (vp_in_nI (by omega) (by omega)) dL_law_963 ?_
  obtain ⟨fsm, hrm⟩ := mdP_rec hM
  refine lc_M (As := [.int (xs (nI (i + 1)).toNatClampNeg), .int (xs (nI (i + 2)).toNatClampNeg), .int (xs (nI (i + 3)).toNatClampNeg), .int (xs (nI (i + 4)).toNatClampNeg)]) (rest := []) ⟨hx, hb, hml, hown, hts⟩ (k_X5_clash l D hA hM (xs (nI (i + 1)).toNatClampNeg) (xs (nI (i + 2)).toNatClampNeg) (xs (nI (i + 3)).toNatClampNeg) (xs (nI (i + 4)).toNatClampNeg)) (cwV 4 hts gL_law_X5_clash rfl rfl rfl (by decide +kernel) ⟨by decide, by decide⟩) hK hN hZ hP hD hS [0] rfl hrm rfl rfl hl.1 rfl (Nat.le_of_ble_eq_true rfl) ⟨by show _ ≤ 601181; omega, by show _ ≤ 7292561; omega⟩ dL_law_964 (fun v9 w9 H locs hp9 hP hD hS => ?_)
  obtain ⟨tM, rM, AM, rfl, hspM, hMM⟩ := hp9
  obtain ⟨rfl, rfl, rfl⟩ : kL = tM ∧ rL = rM ∧ AL = AM := by have h9 := hspL.symm.trans hspM; simp only [Prod.mk.injEq] at h9; exact h9
  have hA9 : aOK AL := by have h9 : aOK (spClash A (xs (nI (i + 1)).toNatClampNeg) (xs (nI (i + 2)).toNatClampNeg) (xs (nI (i + 3)).toNatClampNeg) (xs (nI (i + 4)).toNatClampNeg)).2.2 := ok_clash hA; rw [hspL] at h9; exact h9
  refine W.eq (g2 := F0 m 967 ls [.int rL]) rfl ?_
  refine lv_istore (lv' := [(6, .int rL), (5, .int kL), (4, .int (nI i)), (3, .ref ol), (2, .ref om), (1, .ref ox), (0, .ref b)]) hx hb dL_law_967 hl (by decide) rfl (fun ls hl => ?_)
  refine lv_aload_n hx hb dL_law_969 rfl (lv_at hl 4 rfl) ?_
  obtain ⟨fsm, hrm⟩ := mdP_rec hMM
  refine lc_M (As := []) (rest := []) ⟨hx, hb, hml, hown, hts⟩ (k_X5_thrown l D hMM) (cwV 0 hts gL_law_X5_thrown rfl rfl rfl (by decide +kernel) ⟨by decide, by decide⟩) hK hN hZ hP hD hS [0] rfl hrm rfl rfl hl.1 rfl (Nat.le_of_ble_eq_true rfl) ⟨by show _ ≤ 601181; omega, by show _ ≤ 7292561; omega⟩ dL_law_970 (fun v9 w9 H locs hp9 hP hD hS => ?_)
  obtain ⟨rfl, hMT⟩ := hp9
  refine W.eq (g2 := F0 m 973 ls [.int kL]) rfl ?_
  refine lv_iload hx hb dL_law_973 (lv_at hl 1 rfl) ?_
  refine lv_icmp_eq (tgt := 980) hx hb dL_law_975 (by decide) (fun _ => ?_) (fun hne => absurd rfl hne)
  refine lv_iload hx hb dL_law_980 (lv_at hl 1 rfl) ?_
  refine lv_if_ne (tgt := 997) hx hb dL_law_982 (by decide) (fun _ => ?_) (fun hk0 => ?_)
  · refine lv_goto (tgt := 1373) hx hb dL_law_997 (by decide) ?_
    exact kk AL kL wcL w9 gL H locs ls hA9 hCL hMT hP hD hS (lv_sub hl [2, 3, 4, 5, 6] rfl)
  · refine lv_aload_n hx hb dL_law_985 rfl (lv_at hl 3 rfl) ?_
    refine lv_iconst (v := 0) hx hb dL_law_986 (by decide) ?_
    refine lc_ld hx hb hK hP 2 rfl dL_law_987 ?_
    refine lv_iload hx hb dL_law_988 (lv_at hl 0 rfl) ?_
    refine lv_i2l (v := (rL : Int32).toInt64) hx hb dL_law_990 rfl ?_
    refine lv_lcmp_eq hx hb (hgL hk0) dL_law_991 ?_
    refine lv_if_eq (tgt := 997) hx hb dL_law_992 (by decide) (fun _ => ?_) (fun hne => absurd rfl hne)
    refine lv_goto (tgt := 1373) hx hb dL_law_997 (by decide) ?_
    exact kk AL kL wcL w9 gL H locs ls hA9 hCL hMT hP hD hS (lv_sub hl [2, 3, 4, 5, 6] rfl)
set_option maxHeartbeats 2000000 in
set_option maxRecDepth 100000 in
theorem law_16 {p : Program} {l : Launch} {e : Env} {s : State} {m : MethodId} {below : List Frame} {meth : Method} {c : Code} {b L : Nat} {xs : Nat → Int32} {D : va_G} {ox op xO xW xN xC xA xM xG xT xH xR xF xB xX ob oc oh hc hp ot yc yt ol om uS uV uB uT uA uP uR : Nat} {cI cZ cJ : ClassId} {Q : State → Prop} (F : LcF p l s m c b L xs D cI cZ cJ) {i : Nat} (hi : i + 6 ≤ L) (hL : L ≤ 3072) {A : AS} {t : Int32} {wc wm : va_W} {g : Nat → Int64} (hA : aOK A) (hC : ClP ox op xO xW xN xC xA xM xG xT xH xR xF xB xX ob oc oh hc hp ot yc yt cI cZ A wc) (hM : MdP om uS uV uB uT uA uP uR cI t A wm) {H : Heap} {locs : List Loc} {ls : Array Slot} (hP : va_P D vwCl (Wl wc cJ ol g wm) H) (hD : va_D (fun q : Nat => s.heap.size ≤ q) (Wl wc cJ ol g wm)) (hS : va_S (fun q : Nat => s.heap.size ≤ q) s.heap H locs) (hl : lv_has ls 9 [(4, .int (nI i)), (3, .ref ol), (2, .ref om), (1, .ref ox), (0, .ref b)]) {cells slots : Nat} (hc1 : cells + 1 ≤ 601181) (hs1 : slots + 6 ≤ 7292561) (kk : ∀ (A9 : AS) (t9 : Int32) (wc9 wm9 : va_W) (g9 : Nat → Int64) (H9 : Heap) (locs9 : List Loc) (ls9 : Array Slot), aOK A9 → ClP ox op xO xW xN xC xA xM xG xT xH xR xF xB xX ob oc oh hc hp ot yc yt cI cZ A9 wc9 → MdP om uS uV uB uT uA uP uR cI t9 A9 wm9 → va_P D vwCl (Wl wc9 cJ ol g9 wm9) H9 → va_D (fun q : Nat => s.heap.size ≤ q) (Wl wc9 cJ ol g9 wm9) → va_S (fun q : Nat => s.heap.size ≤ q) s.heap H9 locs9 → lv_has ls9 9 [(4, .int (nI i)), (3, .ref ol), (2, .ref om), (1, .ref ox), (0, .ref b)] → W p l e room_1 s m #[Value.ref b] below meth c H9 locs9 (cells + 1) (slots + 6) Q (F0 m 1373 ls9 [])) : W p l e room_1 s m #[Value.ref b] below meth c H locs cells slots Q (F0 m 1000 ls []) := by
  obtain ⟨hfl, hx, hb, hml, hown, hts, hX, hbl, hK, hN, hZ, hT⟩ := F
  have hbA : ¬ (fun q : Nat => s.heap.size ≤ q) b := Nat.not_le.mpr hbl
  refine lv_aload_n hx hb dL_law_1000 rfl (lv_at hl 3 rfl) ?_
  refine lv_aload_n hx hb dL_law_1001 rfl (lv_at hl 4 rfl) ?_
  refine lv_iload hx hb dL_law_1002 (lv_at hl 0 rfl) ?_
  refine lv_iconst (v := 1) hx hb dL_law_1004 (by decide) ?_
  refine lv_iadd hx hb dL_law_1005 ?_
  refine lv_asi (y := nI (i + 1)) (nI_add i 1) ?_
  refine va_sld hx hb hX hbl hbA hS (vp_in_nI (by omega) (by omega)) dL_law_1006 ?_
  refine lv_aload_n hx hb dL_law_1007 rfl (lv_at hl 4 rfl) ?_
  refine lv_iload hx hb dL_law_1008 (lv_at hl 0 rfl) ?_
  refine lv_iconst (v := 2) hx hb dL_law_1010 (by decide) ?_
  refine lv_iadd hx hb dL_law_1011 ?_
  refine lv_asi (y := nI (i + 2)) (nI_add i 2) ?_
  refine va_sld hx hb hX hbl hbA hS (vp_in_nI (by omega) (by omega)) dL_law_1012 ?_
  refine lv_aload_n hx hb dL_law_1013 rfl (lv_at hl 1 rfl) ?_
  refine lc_L (As := [.ref ox, .int (xs (nI (i + 1)).toNatClampNeg), .int (xs (nI (i + 2)).toNatClampNeg), .ref ol]) (rest := []) ⟨hx, hb, hml, hown, hts⟩ (k_L_at l hfl D hA hC (xs (nI (i + 1)).toNatClampNeg) (xs (nI (i + 2)).toNatClampNeg)) (vx_cwSW 4 hts gL_law_L_at rfl rfl rfl (by decide +kernel) ⟨by decide, by decide⟩) hK hN hZ hT hP hD hS [0, 1, 2] rfl rfl hl.1 rfl (Nat.le_of_ble_eq_true rfl) ⟨hc1, hs1⟩ dL_law_1014 (fun v9 w9 H locs hp9 hP hD hS => ?_)
  obtain ⟨kL, rL, AL, gL, wcL, rfl, hspL, hgL, hCL, rfl⟩ := hp9
  have hP : va_P D vwCl (Wl wcL cJ ol gL wm) H := hP
  have hD : va_D (fun q : Nat => s.heap.size ≤ q) (Wl wcL cJ ol gL wm) := hD
  refine W.eq (g2 := F0 m 1017 ls [.int kL]) rfl ?_
  refine lv_istore (lv' := [(5, .int kL), (4, .int (nI i)), (3, .ref ol), (2, .ref om), (1, .ref ox), (0, .ref b)]) hx hb dL_law_1017 hl (by decide) rfl (fun ls hl => ?_)
  refine lv_aload_n hx hb dL_law_1019 rfl (lv_at hl 3 rfl) ?_
  refine lv_aload_n hx hb dL_law_1020 rfl (lv_at hl 5 rfl) ?_
  refine lv_iload hx hb dL_law_1021 (lv_at hl 1 rfl) ?_
  refine lv_iconst (v := 1) hx hb dL_law_1023 (by decide) ?_
  refine lv_iadd hx hb dL_law_1024 ?_
  refine lv_asi (y := nI (i + 1)) (nI_add i 1) ?_
  refine va_sld hx hb hX hbl hbA hS (vp_in_nI (by omega) (by omega)) dL_law_1025 ?_
  refine lv_aload_n hx hb dL_law_1026 rfl (lv_at hl 5 rfl) ?_
  refine lv_iload hx hb dL_law_1027 (lv_at hl 1 rfl) ?_
  refine lv_iconst (v := 2) hx hb dL_law_1029 (by decide) ?_
  refine lv_iadd hx hb dL_law_1030 ?_
  refine lv_asi (y := nI (i + 2)) (nI_add i 2) ?_
  refine va_sld hx hb hX hbl hbA hS (vp_in_nI (by omega) (by omega)) dL_law_1031 ?_
  obtain ⟨fsm, hrm⟩ := mdP_rec hM
  refine lc_M (As := [.int (xs (nI (i + 1)).toNatClampNeg), .int (xs (nI (i + 2)).toNatClampNeg)]) (rest := []) ⟨hx, hb, hml, hown, hts⟩ (k_X5_at l D hA hM (xs (nI (i + 1)).toNatClampNeg) (xs (nI (i + 2)).toNatClampNeg)) (cwV 2 hts gL_law_X5_at rfl rfl rfl (by decide +kernel) ⟨by decide, by decide⟩) hK hN hZ hP hD hS [0] rfl hrm rfl rfl hl.1 rfl (Nat.le_of_ble_eq_true rfl) ⟨by show _ ≤ 601181; omega, by show _ ≤ 7292561; omega⟩ dL_law_1032 (fun v9 w9 H locs hp9 hP hD hS => ?_)
  obtain ⟨tM, rM, AM, rfl, hspM, hMM⟩ := hp9
  obtain ⟨rfl, rfl, rfl⟩ : kL = tM ∧ rL = rM ∧ AL = AM := by have h9 := hspL.symm.trans hspM; simp only [Prod.mk.injEq] at h9; exact h9
  have hA9 : aOK AL := by have h9 : aOK (spAt A (xs (nI (i + 1)).toNatClampNeg) (xs (nI (i + 2)).toNatClampNeg)).2.2 := ok_at hA; rw [hspL] at h9; exact h9
  refine W.eq (g2 := F0 m 1035 ls [.int rL]) rfl ?_
  refine lv_istore (lv' := [(6, .int rL), (5, .int kL), (4, .int (nI i)), (3, .ref ol), (2, .ref om), (1, .ref ox), (0, .ref b)]) hx hb dL_law_1035 hl (by decide) rfl (fun ls hl => ?_)
  refine lv_aload_n hx hb dL_law_1037 rfl (lv_at hl 4 rfl) ?_
  obtain ⟨fsm, hrm⟩ := mdP_rec hMM
  refine lc_M (As := []) (rest := []) ⟨hx, hb, hml, hown, hts⟩ (k_X5_thrown l D hMM) (cwV 0 hts gL_law_X5_thrown rfl rfl rfl (by decide +kernel) ⟨by decide, by decide⟩) hK hN hZ hP hD hS [0] rfl hrm rfl rfl hl.1 rfl (Nat.le_of_ble_eq_true rfl) ⟨by show _ ≤ 601181; omega, by show _ ≤ 7292561; omega⟩ dL_law_1038 (fun v9 w9 H locs hp9 hP hD hS => ?_)
  obtain ⟨rfl, hMT⟩ := hp9
  refine W.eq (g2 := F0 m 1041 ls [.int kL]) rfl ?_
  refine lv_iload hx hb dL_law_1041 (lv_at hl 1 rfl) ?_
  refine lv_icmp_eq (tgt := 1048) hx hb dL_law_1043 (by decide) (fun _ => ?_) (fun hne => absurd rfl hne)
  refine lv_iload hx hb dL_law_1048 (lv_at hl 1 rfl) ?_
  refine lv_if_ne (tgt := 1065) hx hb dL_law_1050 (by decide) (fun _ => ?_) (fun hk0 => ?_)
  · refine lv_goto (tgt := 1373) hx hb dL_law_1065 (by decide) ?_
    exact kk AL kL wcL w9 gL H locs ls hA9 hCL hMT hP hD hS (lv_sub hl [2, 3, 4, 5, 6] rfl)
  · refine lv_aload_n hx hb dL_law_1053 rfl (lv_at hl 3 rfl) ?_
    refine lv_iconst (v := 0) hx hb dL_law_1054 (by decide) ?_
    refine lc_ld hx hb hK hP 2 rfl dL_law_1055 ?_
    refine lv_iload hx hb dL_law_1056 (lv_at hl 0 rfl) ?_
    refine lv_i2l (v := (rL : Int32).toInt64) hx hb dL_law_1058 rfl ?_
    refine lv_lcmp_eq hx hb (hgL hk0) dL_law_1059 ?_
    refine lv_if_eq (tgt := 1065) hx hb dL_law_1060 (by decide) (fun _ => ?_) (fun hne => absurd rfl hne)
    refine lv_goto (tgt := 1373) hx hb dL_law_1065 (by decide) ?_
    exact kk AL kL wcL w9 gL H locs ls hA9 hCL hMT hP hD hS (lv_sub hl [2, 3, 4, 5, 6] rfl)
set_option maxHeartbeats 2000000 in
set_option maxRecDepth 100000 in
theorem law_17 {p : Program} {l : Launch} {e : Env} {s : State} {m : MethodId} {below : List Frame} {meth : Method} {c : Code} {b L : Nat} {xs : Nat → Int32} {D : va_G} {ox op xO xW xN xC xA xM xG xT xH xR xF xB xX ob oc oh hc hp ot yc yt ol om uS uV uB uT uA uP uR : Nat} {cI cZ cJ : ClassId} {Q : State → Prop} (F : LcF p l s m c b L xs D cI cZ cJ) {i : Nat} (hi : i + 6 ≤ L) (hL : L ≤ 3072) {A : AS} {t : Int32} {wc wm : va_W} {g : Nat → Int64} (hA : aOK A) (hC : ClP ox op xO xW xN xC xA xM xG xT xH xR xF xB xX ob oc oh hc hp ot yc yt cI cZ A wc) (hM : MdP om uS uV uB uT uA uP uR cI t A wm) {H : Heap} {locs : List Loc} {ls : Array Slot} (hP : va_P D vwCl (Wl wc cJ ol g wm) H) (hD : va_D (fun q : Nat => s.heap.size ≤ q) (Wl wc cJ ol g wm)) (hS : va_S (fun q : Nat => s.heap.size ≤ q) s.heap H locs) (hl : lv_has ls 9 [(4, .int (nI i)), (3, .ref ol), (2, .ref om), (1, .ref ox), (0, .ref b)]) {cells slots : Nat} (hc1 : cells + 1 ≤ 601181) (hs1 : slots + 6 ≤ 7292561) (kk : ∀ (A9 : AS) (t9 : Int32) (wc9 wm9 : va_W) (g9 : Nat → Int64) (H9 : Heap) (locs9 : List Loc) (ls9 : Array Slot), aOK A9 → ClP ox op xO xW xN xC xA xM xG xT xH xR xF xB xX ob oc oh hc hp ot yc yt cI cZ A9 wc9 → MdP om uS uV uB uT uA uP uR cI t9 A9 wm9 → va_P D vwCl (Wl wc9 cJ ol g9 wm9) H9 → va_D (fun q : Nat => s.heap.size ≤ q) (Wl wc9 cJ ol g9 wm9) → va_S (fun q : Nat => s.heap.size ≤ q) s.heap H9 locs9 → lv_has ls9 9 [(4, .int (nI i)), (3, .ref ol), (2, .ref om), (1, .ref ox), (0, .ref b)] → W p l e room_1 s m #[Value.ref b] below meth c H9 locs9 (cells + 1) (slots + 6) Q (F0 m 1373 ls9 [])) : W p l e room_1 s m #[Value.ref b] below meth c H locs cells slots Q (F0 m 1068 ls []) := by
  obtain ⟨hfl, hx, hb, hml, hown, hts, hX, hbl, hK, hN, hZ, hT⟩ := F
  have hbA : ¬ (fun q : Nat => s.heap.size ≤ q) b := Nat.not_le.mpr hbl
  refine lv_aload_n hx hb dL_law_1068 rfl (lv_at hl 3 rfl) ?_
  refine lv_aload_n hx hb dL_law_1069 rfl (lv_at hl 4 rfl) ?_
  refine lv_iload hx hb dL_law_1070 (lv_at hl 0 rfl) ?_
  refine lv_iconst (v := 1) hx hb dL_law_1072 (by decide) ?_
  refine lv_iadd hx hb dL_law_1073 ?_
  refine lv_asi (y := nI (i + 1)) (nI_add i 1) ?_
  refine va_sld hx hb hX hbl hbA hS (vp_in_nI (by omega) (by omega)) dL_law_1074 ?_
  refine lv_aload_n hx hb dL_law_1075 rfl (lv_at hl 1 rfl) ?_
  refine lc_L (As := [.ref ox, .int (xs (nI (i + 1)).toNatClampNeg), .ref ol]) (rest := []) ⟨hx, hb, hml, hown, hts⟩ (k_L_count l hfl D hA hC (xs (nI (i + 1)).toNatClampNeg)) (vx_cwSW 3 hts gL_law_L_count rfl rfl rfl (by decide +kernel) ⟨by decide, by decide⟩) hK hN hZ hT hP hD hS [0, 1, 2] rfl rfl hl.1 rfl (Nat.le_of_ble_eq_true rfl) ⟨hc1, hs1⟩ dL_law_1076 (fun v9 w9 H locs hp9 hP hD hS => ?_)
  obtain ⟨kL, rL, AL, gL, wcL, rfl, hspL, hgL, hCL, rfl⟩ := hp9
  have hP : va_P D vwCl (Wl wcL cJ ol gL wm) H := hP
  have hD : va_D (fun q : Nat => s.heap.size ≤ q) (Wl wcL cJ ol gL wm) := hD
  refine W.eq (g2 := F0 m 1079 ls [.int kL]) rfl ?_
  refine lv_istore (lv' := [(5, .int kL), (4, .int (nI i)), (3, .ref ol), (2, .ref om), (1, .ref ox), (0, .ref b)]) hx hb dL_law_1079 hl (by decide) rfl (fun ls hl => ?_)
  refine lv_aload_n hx hb dL_law_1081 rfl (lv_at hl 3 rfl) ?_
  refine lv_aload_n hx hb dL_law_1082 rfl (lv_at hl 5 rfl) ?_
  refine lv_iload hx hb dL_law_1083 (lv_at hl 1 rfl) ?_
  refine lv_iconst (v := 1) hx hb dL_law_1085 (by decide) ?_
  refine lv_iadd hx hb dL_law_1086 ?_
  refine lv_asi (y := nI (i + 1)) (nI_add i 1) ?_
  refine va_sld hx hb hX hbl hbA hS (vp_in_nI (by omega) (by omega)) dL_law_1087 ?_
  obtain ⟨fsm, hrm⟩ := mdP_rec hM
  refine lc_M (As := [.int (xs (nI (i + 1)).toNatClampNeg)]) (rest := []) ⟨hx, hb, hml, hown, hts⟩ (k_X5_count l D hA hM (xs (nI (i + 1)).toNatClampNeg)) (cwV 1 hts gL_law_X5_count rfl rfl rfl (by decide +kernel) ⟨by decide, by decide⟩) hK hN hZ hP hD hS [0] rfl hrm rfl rfl hl.1 rfl (Nat.le_of_ble_eq_true rfl) ⟨by show _ ≤ 601181; omega, by show _ ≤ 7292561; omega⟩ dL_law_1088 (fun v9 w9 H locs hp9 hP hD hS => ?_)
  obtain ⟨tM, rM, AM, rfl, hspM, hMM⟩ := hp9
  obtain ⟨rfl, rfl, rfl⟩ : kL = tM ∧ rL = rM ∧ AL = AM := by have h9 := hspL.symm.trans hspM; simp only [Prod.mk.injEq] at h9; exact h9
  have hA9 : aOK AL := by have h9 : aOK (spCount A (xs (nI (i + 1)).toNatClampNeg)).2.2 := ok_count hA; rw [hspL] at h9; exact h9
  refine W.eq (g2 := F0 m 1091 ls [.int rL]) rfl ?_
  refine lv_istore (lv' := [(6, .int rL), (5, .int kL), (4, .int (nI i)), (3, .ref ol), (2, .ref om), (1, .ref ox), (0, .ref b)]) hx hb dL_law_1091 hl (by decide) rfl (fun ls hl => ?_)
  refine lv_aload_n hx hb dL_law_1093 rfl (lv_at hl 4 rfl) ?_
  obtain ⟨fsm, hrm⟩ := mdP_rec hMM
  refine lc_M (As := []) (rest := []) ⟨hx, hb, hml, hown, hts⟩ (k_X5_thrown l D hMM) (cwV 0 hts gL_law_X5_thrown rfl rfl rfl (by decide +kernel) ⟨by decide, by decide⟩) hK hN hZ hP hD hS [0] rfl hrm rfl rfl hl.1 rfl (Nat.le_of_ble_eq_true rfl) ⟨by show _ ≤ 601181; omega, by show _ ≤ 7292561; omega⟩ dL_law_1094 (fun v9 w9 H locs hp9 hP hD hS => ?_)
  obtain ⟨rfl, hMT⟩ := hp9
  refine W.eq (g2 := F0 m 1097 ls [.int kL]) rfl ?_
  refine lv_iload hx hb dL_law_1097 (lv_at hl 1 rfl) ?_
  refine lv_icmp_eq (tgt := 1104) hx hb dL_law_1099 (by decide) (fun _ => ?_) (fun hne => absurd rfl hne)
  refine lv_iload hx hb dL_law_1104 (lv_at hl 1 rfl) ?_
  refine lv_if_ne (tgt := 1121) hx hb dL_law_1106 (by decide) (fun _ => ?_) (fun hk0 => ?_)
  · refine lv_goto (tgt := 1373) hx hb dL_law_1121 (by decide) ?_
    exact kk AL kL wcL w9 gL H locs ls hA9 hCL hMT hP hD hS (lv_sub hl [2, 3, 4, 5, 6] rfl)
  · refine lv_aload_n hx hb dL_law_1109 rfl (lv_at hl 3 rfl) ?_
    refine lv_iconst (v := 0) hx hb dL_law_1110 (by decide) ?_
    refine lc_ld hx hb hK hP 2 rfl dL_law_1111 ?_
    refine lv_iload hx hb dL_law_1112 (lv_at hl 0 rfl) ?_
    refine lv_i2l (v := (rL : Int32).toInt64) hx hb dL_law_1114 rfl ?_
    refine lv_lcmp_eq hx hb (hgL hk0) dL_law_1115 ?_
    refine lv_if_eq (tgt := 1121) hx hb dL_law_1116 (by decide) (fun _ => ?_) (fun hne => absurd rfl hne)
    refine lv_goto (tgt := 1373) hx hb dL_law_1121 (by decide) ?_
    exact kk AL kL wcL w9 gL H locs ls hA9 hCL hMT hP hD hS (lv_sub hl [2, 3, 4, 5, 6] rfl)
set_option maxHeartbeats 2000000 in
set_option maxRecDepth 100000 in
theorem law_18 {p : Program} {l : Launch} {e : Env} {s : State} {m : MethodId} {below : List Frame} {meth : Method} {c : Code} {b L : Nat} {xs : Nat → Int32} {D : va_G} {ox op xO xW xN xC xA xM xG xT xH xR xF xB xX ob oc oh hc hp ot yc yt ol om uS uV uB uT uA uP uR : Nat} {cI cZ cJ : ClassId} {Q : State → Prop} (F : LcF p l s m c b L xs D cI cZ cJ) {i : Nat} (hi : i + 6 ≤ L) (hL : L ≤ 3072) {A : AS} {t : Int32} {wc wm : va_W} {g : Nat → Int64} (hA : aOK A) (hC : ClP ox op xO xW xN xC xA xM xG xT xH xR xF xB xX ob oc oh hc hp ot yc yt cI cZ A wc) (hM : MdP om uS uV uB uT uA uP uR cI t A wm) {H : Heap} {locs : List Loc} {ls : Array Slot} (hP : va_P D vwCl (Wl wc cJ ol g wm) H) (hD : va_D (fun q : Nat => s.heap.size ≤ q) (Wl wc cJ ol g wm)) (hS : va_S (fun q : Nat => s.heap.size ≤ q) s.heap H locs) (hl : lv_has ls 9 [(4, .int (nI i)), (3, .ref ol), (2, .ref om), (1, .ref ox), (0, .ref b)]) {cells slots : Nat} (hc1 : cells + 1 ≤ 601181) (hs1 : slots + 6 ≤ 7292561) (kk : ∀ (A9 : AS) (t9 : Int32) (wc9 wm9 : va_W) (g9 : Nat → Int64) (H9 : Heap) (locs9 : List Loc) (ls9 : Array Slot), aOK A9 → ClP ox op xO xW xN xC xA xM xG xT xH xR xF xB xX ob oc oh hc hp ot yc yt cI cZ A9 wc9 → MdP om uS uV uB uT uA uP uR cI t9 A9 wm9 → va_P D vwCl (Wl wc9 cJ ol g9 wm9) H9 → va_D (fun q : Nat => s.heap.size ≤ q) (Wl wc9 cJ ol g9 wm9) → va_S (fun q : Nat => s.heap.size ≤ q) s.heap H9 locs9 → lv_has ls9 9 [(4, .int (nI i)), (3, .ref ol), (2, .ref om), (1, .ref ox), (0, .ref b)] → W p l e room_1 s m #[Value.ref b] below meth c H9 locs9 (cells + 1) (slots + 6) Q (F0 m 1373 ls9 [])) : W p l e room_1 s m #[Value.ref b] below meth c H locs cells slots Q (F0 m 1124 ls []) := by
  obtain ⟨hfl, hx, hb, hml, hown, hts, hX, hbl, hK, hN, hZ, hT⟩ := F
  have hbA : ¬ (fun q : Nat => s.heap.size ≤ q) b := Nat.not_le.mpr hbl
  refine lv_aload_n hx hb dL_law_1124 rfl (lv_at hl 3 rfl) ?_
  refine lv_aload_n hx hb dL_law_1125 rfl (lv_at hl 4 rfl) ?_
  refine lv_iload hx hb dL_law_1126 (lv_at hl 0 rfl) ?_
  refine lv_iconst (v := 1) hx hb dL_law_1128 (by decide) ?_
  refine lv_iadd hx hb dL_law_1129 ?_
  refine lv_asi (y := nI (i + 1)) (nI_add i 1) ?_
  refine va_sld hx hb hX hbl hbA hS (vp_in_nI (by omega) (by omega)) dL_law_1130 ?_
  refine lv_aload_n hx hb dL_law_1131 rfl (lv_at hl 1 rfl) ?_
  refine lc_L (As := [.ref ox, .int (xs (nI (i + 1)).toNatClampNeg), .ref ol]) (rest := []) ⟨hx, hb, hml, hown, hts⟩ (k_L_best l hfl D hA hC (xs (nI (i + 1)).toNatClampNeg)) (vx_cwSW 3 hts gL_law_L_best rfl rfl rfl (by decide +kernel) ⟨by decide, by decide⟩) hK hN hZ hT hP hD hS [0, 1, 2] rfl rfl hl.1 rfl (Nat.le_of_ble_eq_true rfl) ⟨hc1, hs1⟩ dL_law_1132 (fun v9 w9 H locs hp9 hP hD hS => ?_)
  obtain ⟨kL, rL, AL, gL, wcL, rfl, hspL, hgL, hCL, rfl⟩ := hp9
  have hP : va_P D vwCl (Wl wcL cJ ol gL wm) H := hP
  have hD : va_D (fun q : Nat => s.heap.size ≤ q) (Wl wcL cJ ol gL wm) := hD
  refine W.eq (g2 := F0 m 1135 ls [.int kL]) rfl ?_
  refine lv_istore (lv' := [(5, .int kL), (4, .int (nI i)), (3, .ref ol), (2, .ref om), (1, .ref ox), (0, .ref b)]) hx hb dL_law_1135 hl (by decide) rfl (fun ls hl => ?_)
  refine lv_aload_n hx hb dL_law_1137 rfl (lv_at hl 3 rfl) ?_
  refine lv_aload_n hx hb dL_law_1138 rfl (lv_at hl 5 rfl) ?_
  refine lv_iload hx hb dL_law_1139 (lv_at hl 1 rfl) ?_
  refine lv_iconst (v := 1) hx hb dL_law_1141 (by decide) ?_
  refine lv_iadd hx hb dL_law_1142 ?_
  refine lv_asi (y := nI (i + 1)) (nI_add i 1) ?_
  refine va_sld hx hb hX hbl hbA hS (vp_in_nI (by omega) (by omega)) dL_law_1143 ?_
  obtain ⟨fsm, hrm⟩ := mdP_rec hM
  refine lc_M (As := [.int (xs (nI (i + 1)).toNatClampNeg)]) (rest := []) ⟨hx, hb, hml, hown, hts⟩ (k_X5_best l D hA hM (xs (nI (i + 1)).toNatClampNeg)) (cwV 1 hts gL_law_X5_best rfl rfl rfl (by decide +kernel) ⟨by decide, by decide⟩) hK hN hZ hP hD hS [0] rfl hrm rfl rfl hl.1 rfl (Nat.le_of_ble_eq_true rfl) ⟨by show _ ≤ 601181; omega, by show _ ≤ 7292561; omega⟩ dL_law_1144 (fun v9 w9 H locs hp9 hP hD hS => ?_)
  obtain ⟨tM, rM, AM, rfl, hspM, hMM⟩ := hp9
  obtain ⟨rfl, rfl, rfl⟩ : kL = tM ∧ rL = rM ∧ AL = AM := by have h9 := hspL.symm.trans hspM; simp only [Prod.mk.injEq] at h9; exact h9
  have hA9 : aOK AL := by have h9 : aOK (spBest A (xs (nI (i + 1)).toNatClampNeg)).2.2 := ok_best hA; rw [hspL] at h9; exact h9
  refine W.eq (g2 := F0 m 1147 ls [.int rL]) rfl ?_
  refine lv_istore (lv' := [(6, .int rL), (5, .int kL), (4, .int (nI i)), (3, .ref ol), (2, .ref om), (1, .ref ox), (0, .ref b)]) hx hb dL_law_1147 hl (by decide) rfl (fun ls hl => ?_)
  refine lv_aload_n hx hb dL_law_1149 rfl (lv_at hl 4 rfl) ?_
  obtain ⟨fsm, hrm⟩ := mdP_rec hMM
  refine lc_M (As := []) (rest := []) ⟨hx, hb, hml, hown, hts⟩ (k_X5_thrown l D hMM) (cwV 0 hts gL_law_X5_thrown rfl rfl rfl (by decide +kernel) ⟨by decide, by decide⟩) hK hN hZ hP hD hS [0] rfl hrm rfl rfl hl.1 rfl (Nat.le_of_ble_eq_true rfl) ⟨by show _ ≤ 601181; omega, by show _ ≤ 7292561; omega⟩ dL_law_1150 (fun v9 w9 H locs hp9 hP hD hS => ?_)
  obtain ⟨rfl, hMT⟩ := hp9
  refine W.eq (g2 := F0 m 1153 ls [.int kL]) rfl ?_
  refine lv_iload hx hb dL_law_1153 (lv_at hl 1 rfl) ?_
  refine lv_icmp_eq (tgt := 1160) hx hb dL_law_1155 (by decide) (fun _ => ?_) (fun hne => absurd rfl hne)
  refine lv_iload hx hb dL_law_1160 (lv_at hl 1 rfl) ?_
  refine lv_if_ne (tgt := 1177) hx hb dL_law_1162 (by decide) (fun _ => ?_) (fun hk0 => ?_)
  · refine lv_goto (tgt := 1373) hx hb dL_law_1177 (by decide) ?_
    exact kk AL kL wcL w9 gL H locs ls hA9 hCL hMT hP hD hS (lv_sub hl [2, 3, 4, 5, 6] rfl)
  · refine lv_aload_n hx hb dL_law_1165 rfl (lv_at hl 3 rfl) ?_
    refine lv_iconst (v := 0) hx hb dL_law_1166 (by decide) ?_
    refine lc_ld hx hb hK hP 2 rfl dL_law_1167 ?_
    refine lv_iload hx hb dL_law_1168 (lv_at hl 0 rfl) ?_
    refine lv_i2l (v := (rL : Int32).toInt64) hx hb dL_law_1170 rfl ?_
    refine lv_lcmp_eq hx hb (hgL hk0) dL_law_1171 ?_
    refine lv_if_eq (tgt := 1177) hx hb dL_law_1172 (by decide) (fun _ => ?_) (fun hne => absurd rfl hne)
    refine lv_goto (tgt := 1373) hx hb dL_law_1177 (by decide) ?_
    exact kk AL kL wcL w9 gL H locs ls hA9 hCL hMT hP hD hS (lv_sub hl [2, 3, 4, 5, 6] rfl)
set_option maxHeartbeats 2000000 in
set_option maxRecDepth 100000 in
theorem law_19 {p : Program} {l : Launch} {e : Env} {s : State} {m : MethodId} {below : List Frame} {meth : Method} {c : Code} {b L : Nat} {xs : Nat → Int32} {D : va_G} {ox op xO xW xN xC xA xM xG xT xH xR xF xB xX ob oc oh hc hp ot yc yt ol om uS uV uB uT uA uP uR : Nat} {cI cZ cJ : ClassId} {Q : State → Prop} (F : LcF p l s m c b L xs D cI cZ cJ) {i : Nat} (hi : i + 6 ≤ L) (hL : L ≤ 3072) {A : AS} {t : Int32} {wc wm : va_W} {g : Nat → Int64} (hA : aOK A) (hC : ClP ox op xO xW xN xC xA xM xG xT xH xR xF xB xX ob oc oh hc hp ot yc yt cI cZ A wc) (hM : MdP om uS uV uB uT uA uP uR cI t A wm) {H : Heap} {locs : List Loc} {ls : Array Slot} (hP : va_P D vwCl (Wl wc cJ ol g wm) H) (hD : va_D (fun q : Nat => s.heap.size ≤ q) (Wl wc cJ ol g wm)) (hS : va_S (fun q : Nat => s.heap.size ≤ q) s.heap H locs) (hl : lv_has ls 9 [(4, .int (nI i)), (3, .ref ol), (2, .ref om), (1, .ref ox), (0, .ref b)]) {cells slots : Nat} (hc1 : cells + 1 ≤ 601181) (hs1 : slots + 6 ≤ 7292561) (kk : ∀ (A9 : AS) (t9 : Int32) (wc9 wm9 : va_W) (g9 : Nat → Int64) (H9 : Heap) (locs9 : List Loc) (ls9 : Array Slot), aOK A9 → ClP ox op xO xW xN xC xA xM xG xT xH xR xF xB xX ob oc oh hc hp ot yc yt cI cZ A9 wc9 → MdP om uS uV uB uT uA uP uR cI t9 A9 wm9 → va_P D vwCl (Wl wc9 cJ ol g9 wm9) H9 → va_D (fun q : Nat => s.heap.size ≤ q) (Wl wc9 cJ ol g9 wm9) → va_S (fun q : Nat => s.heap.size ≤ q) s.heap H9 locs9 → lv_has ls9 9 [(4, .int (nI i)), (3, .ref ol), (2, .ref om), (1, .ref ox), (0, .ref b)] → W p l e room_1 s m #[Value.ref b] below meth c H9 locs9 (cells + 1) (slots + 6) Q (F0 m 1373 ls9 [])) : W p l e room_1 s m #[Value.ref b] below meth c H locs cells slots Q (F0 m 1180 ls []) := by
  obtain ⟨hfl, hx, hb, hml, hown, hts, hX, hbl, hK, hN, hZ, hT⟩ := F
  have hbA : ¬ (fun q : Nat => s.heap.size ≤ q) b := Nat.not_le.mpr hbl
  refine lv_aload_n hx hb dL_law_1180 rfl (lv_at hl 3 rfl) ?_
  refine lv_aload_n hx hb dL_law_1181 rfl (lv_at hl 4 rfl) ?_
  refine lv_iload hx hb dL_law_1182 (lv_at hl 0 rfl) ?_
  refine lv_iconst (v := 1) hx hb dL_law_1184 (by decide) ?_
  refine lv_iadd hx hb dL_law_1185 ?_
  refine lv_asi (y := nI (i + 1)) (nI_add i 1) ?_
  refine va_sld hx hb hX hbl hbA hS (vp_in_nI (by omega) (by omega)) dL_law_1186 ?_
  refine lv_aload_n hx hb dL_law_1187 rfl (lv_at hl 1 rfl) ?_
  refine lc_L (As := [.ref ox, .int (xs (nI (i + 1)).toNatClampNeg), .ref ol]) (rest := []) ⟨hx, hb, hml, hown, hts⟩ (k_L_bestWeight l hfl D hA hC (xs (nI (i + 1)).toNatClampNeg)) (vx_cwSW 3 hts gL_law_L_bestWeight rfl rfl rfl (by decide +kernel) ⟨by decide, by decide⟩) hK hN hZ hT hP hD hS [0, 1, 2] rfl rfl hl.1 rfl (Nat.le_of_ble_eq_true rfl) ⟨hc1, hs1⟩ dL_law_1188 (fun v9 w9 H locs hp9 hP hD hS => ?_)
  obtain ⟨kL, rL, AL, gL, wcL, rfl, hspL, hgL, hCL, rfl⟩ := hp9
  have hP : va_P D vwCl (Wl wcL cJ ol gL wm) H := hP
  have hD : va_D (fun q : Nat => s.heap.size ≤ q) (Wl wcL cJ ol gL wm) := hD
  refine W.eq (g2 := F0 m 1191 ls [.int kL]) rfl ?_
  refine lv_istore (lv' := [(5, .int kL), (4, .int (nI i)), (3, .ref ol), (2, .ref om), (1, .ref ox), (0, .ref b)]) hx hb dL_law_1191 hl (by decide) rfl (fun ls hl => ?_)
  refine lv_aload_n hx hb dL_law_1193 rfl (lv_at hl 3 rfl) ?_
  refine lv_aload_n hx hb dL_law_1194 rfl (lv_at hl 5 rfl) ?_
  refine lv_iload hx hb dL_law_1195 (lv_at hl 1 rfl) ?_
  refine lv_iconst (v := 1) hx hb dL_law_1197 (by decide) ?_
  refine lv_iadd hx hb dL_law_1198 ?_
  refine lv_asi (y := nI (i + 1)) (nI_add i 1) ?_
  refine va_sld hx hb hX hbl hbA hS (vp_in_nI (by omega) (by omega)) dL_law_1199 ?_
  obtain ⟨fsm, hrm⟩ := mdP_rec hM
  refine lc_M (As := [.int (xs (nI (i + 1)).toNatClampNeg)]) (rest := []) ⟨hx, hb, hml, hown, hts⟩ (k_X5_bestWeight l D hA hM (xs (nI (i + 1)).toNatClampNeg)) (cwV 1 hts gL_law_X5_bestWeight rfl rfl rfl (by decide +kernel) ⟨by decide, by decide⟩) hK hN hZ hP hD hS [0] rfl hrm rfl rfl hl.1 rfl (Nat.le_of_ble_eq_true rfl) ⟨by show _ ≤ 601181; omega, by show _ ≤ 7292561; omega⟩ dL_law_1200 (fun v9 w9 H locs hp9 hP hD hS => ?_)
  obtain ⟨tM, rM, AM, rfl, hspM, hMM⟩ := hp9
  obtain ⟨rfl, rfl, rfl⟩ : kL = tM ∧ rL = rM ∧ AL = AM := by have h9 := hspL.symm.trans hspM; simp only [Prod.mk.injEq] at h9; exact h9
  have hA9 : aOK AL := by have h9 : aOK (spBestW A (xs (nI (i + 1)).toNatClampNeg)).2.2 := ok_bestW hA; rw [hspL] at h9; exact h9
  refine W.eq (g2 := F0 m 1203 ls [.int rL]) rfl ?_
  refine lv_istore (lv' := [(6, .int rL), (5, .int kL), (4, .int (nI i)), (3, .ref ol), (2, .ref om), (1, .ref ox), (0, .ref b)]) hx hb dL_law_1203 hl (by decide) rfl (fun ls hl => ?_)
  refine lv_aload_n hx hb dL_law_1205 rfl (lv_at hl 4 rfl) ?_
  obtain ⟨fsm, hrm⟩ := mdP_rec hMM
  refine lc_M (As := []) (rest := []) ⟨hx, hb, hml, hown, hts⟩ (k_X5_thrown l D hMM) (cwV 0 hts gL_law_X5_thrown rfl rfl rfl (by decide +kernel) ⟨by decide, by decide⟩) hK hN hZ hP hD hS [0] rfl hrm rfl rfl hl.1 rfl (Nat.le_of_ble_eq_true rfl) ⟨by show _ ≤ 601181; omega, by show _ ≤ 7292561; omega⟩ dL_law_1206 (fun v9 w9 H locs hp9 hP hD hS => ?_)
  obtain ⟨rfl, hMT⟩ := hp9
  refine W.eq (g2 := F0 m 1209 ls [.int kL]) rfl ?_
  refine lv_iload hx hb dL_law_1209 (lv_at hl 1 rfl) ?_
  refine lv_icmp_eq (tgt := 1216) hx hb dL_law_1211 (by decide) (fun _ => ?_) (fun hne => absurd rfl hne)
  refine lv_iload hx hb dL_law_1216 (lv_at hl 1 rfl) ?_
  refine lv_if_ne (tgt := 1233) hx hb dL_law_1218 (by decide) (fun _ => ?_) (fun hk0 => ?_)
  · refine lv_goto (tgt := 1373) hx hb dL_law_1233 (by decide) ?_
    exact kk AL kL wcL w9 gL H locs ls hA9 hCL hMT hP hD hS (lv_sub hl [2, 3, 4, 5, 6] rfl)
  · refine lv_aload_n hx hb dL_law_1221 rfl (lv_at hl 3 rfl) ?_
    refine lv_iconst (v := 0) hx hb dL_law_1222 (by decide) ?_
    refine lc_ld hx hb hK hP 2 rfl dL_law_1223 ?_
    refine lv_iload hx hb dL_law_1224 (lv_at hl 0 rfl) ?_
    refine lv_i2l (v := (rL : Int32).toInt64) hx hb dL_law_1226 rfl ?_
    refine lv_lcmp_eq hx hb (hgL hk0) dL_law_1227 ?_
    refine lv_if_eq (tgt := 1233) hx hb dL_law_1228 (by decide) (fun _ => ?_) (fun hne => absurd rfl hne)
    refine lv_goto (tgt := 1373) hx hb dL_law_1233 (by decide) ?_
    exact kk AL kL wcL w9 gL H locs ls hA9 hCL hMT hP hD hS (lv_sub hl [2, 3, 4, 5, 6] rfl)
set_option maxHeartbeats 2000000 in
set_option maxRecDepth 100000 in
theorem law_20 {p : Program} {l : Launch} {e : Env} {s : State} {m : MethodId} {below : List Frame} {meth : Method} {c : Code} {b L : Nat} {xs : Nat → Int32} {D : va_G} {ox op xO xW xN xC xA xM xG xT xH xR xF xB xX ob oc oh hc hp ot yc yt ol om uS uV uB uT uA uP uR : Nat} {cI cZ cJ : ClassId} {Q : State → Prop} (F : LcF p l s m c b L xs D cI cZ cJ) {i : Nat} (hi : i + 6 ≤ L) (hL : L ≤ 3072) {A : AS} {t : Int32} {wc wm : va_W} {g : Nat → Int64} (hA : aOK A) (hC : ClP ox op xO xW xN xC xA xM xG xT xH xR xF xB xX ob oc oh hc hp ot yc yt cI cZ A wc) (hM : MdP om uS uV uB uT uA uP uR cI t A wm) {H : Heap} {locs : List Loc} {ls : Array Slot} (hP : va_P D vwCl (Wl wc cJ ol g wm) H) (hD : va_D (fun q : Nat => s.heap.size ≤ q) (Wl wc cJ ol g wm)) (hS : va_S (fun q : Nat => s.heap.size ≤ q) s.heap H locs) (hl : lv_has ls 9 [(4, .int (nI i)), (3, .ref ol), (2, .ref om), (1, .ref ox), (0, .ref b)]) {cells slots : Nat} (hc1 : cells + 1 ≤ 601181) (hs1 : slots + 6 ≤ 7292561) (kk : ∀ (A9 : AS) (t9 : Int32) (wc9 wm9 : va_W) (g9 : Nat → Int64) (H9 : Heap) (locs9 : List Loc) (ls9 : Array Slot), aOK A9 → ClP ox op xO xW xN xC xA xM xG xT xH xR xF xB xX ob oc oh hc hp ot yc yt cI cZ A9 wc9 → MdP om uS uV uB uT uA uP uR cI t9 A9 wm9 → va_P D vwCl (Wl wc9 cJ ol g9 wm9) H9 → va_D (fun q : Nat => s.heap.size ≤ q) (Wl wc9 cJ ol g9 wm9) → va_S (fun q : Nat => s.heap.size ≤ q) s.heap H9 locs9 → lv_has ls9 9 [(4, .int (nI i)), (3, .ref ol), (2, .ref om), (1, .ref ox), (0, .ref b)] → W p l e room_1 s m #[Value.ref b] below meth c H9 locs9 (cells + 1) (slots + 6) Q (F0 m 1373 ls9 [])) : W p l e room_1 s m #[Value.ref b] below meth c H locs cells slots Q (F0 m 1236 ls []) := by
  obtain ⟨hfl, hx, hb, hml, hown, hts, hX, hbl, hK, hN, hZ, hT⟩ := F
  have hbA : ¬ (fun q : Nat => s.heap.size ≤ q) b := Nat.not_le.mpr hbl
  refine lv_aload_n hx hb dL_law_1236 rfl (lv_at hl 3 rfl) ?_
  refine lv_aload_n hx hb dL_law_1237 rfl (lv_at hl 4 rfl) ?_
  refine lv_iload hx hb dL_law_1238 (lv_at hl 0 rfl) ?_
  refine lv_iconst (v := 1) hx hb dL_law_1240 (by decide) ?_
  refine lv_iadd hx hb dL_law_1241 ?_
  refine lv_asi (y := nI (i + 1)) (nI_add i 1) ?_
  refine va_sld hx hb hX hbl hbA hS (vp_in_nI (by omega) (by omega)) dL_law_1242 ?_
  refine lv_aload_n hx hb dL_law_1243 rfl (lv_at hl 1 rfl) ?_
  refine lc_L (As := [.ref ox, .int (xs (nI (i + 1)).toNatClampNeg), .ref ol]) (rest := []) ⟨hx, hb, hml, hown, hts⟩ (k_L_ifPushed l hfl D hA hC (xs (nI (i + 1)).toNatClampNeg)) (vx_cwSW 3 hts gL_law_L_ifPushed rfl rfl rfl (by decide +kernel) ⟨by decide, by decide⟩) hK hN hZ hT hP hD hS [0, 1, 2] rfl rfl hl.1 rfl (Nat.le_of_ble_eq_true rfl) ⟨hc1, hs1⟩ dL_law_1244 (fun v9 w9 H locs hp9 hP hD hS => ?_)
  obtain ⟨kL, rL, AL, gL, wcL, rfl, hspL, hgL, hCL, rfl⟩ := hp9
  have hP : va_P D vwCl (Wl wcL cJ ol gL wm) H := hP
  have hD : va_D (fun q : Nat => s.heap.size ≤ q) (Wl wcL cJ ol gL wm) := hD
  refine W.eq (g2 := F0 m 1247 ls [.int kL]) rfl ?_
  refine lv_istore (lv' := [(5, .int kL), (4, .int (nI i)), (3, .ref ol), (2, .ref om), (1, .ref ox), (0, .ref b)]) hx hb dL_law_1247 hl (by decide) rfl (fun ls hl => ?_)
  refine lv_aload_n hx hb dL_law_1249 rfl (lv_at hl 3 rfl) ?_
  refine lv_aload_n hx hb dL_law_1250 rfl (lv_at hl 5 rfl) ?_
  refine lv_iload hx hb dL_law_1251 (lv_at hl 1 rfl) ?_
  refine lv_iconst (v := 1) hx hb dL_law_1253 (by decide) ?_
  refine lv_iadd hx hb dL_law_1254 ?_
  refine lv_asi (y := nI (i + 1)) (nI_add i 1) ?_
  refine va_sld hx hb hX hbl hbA hS (vp_in_nI (by omega) (by omega)) dL_law_1255 ?_
  obtain ⟨fsm, hrm⟩ := mdP_rec hM
  refine lc_M (As := [.int (xs (nI (i + 1)).toNatClampNeg)]) (rest := []) ⟨hx, hb, hml, hown, hts⟩ (k_X5_ifPushed l D hA hM (xs (nI (i + 1)).toNatClampNeg)) (cwV 1 hts gL_law_X5_ifPushed rfl rfl rfl (by decide +kernel) ⟨by decide, by decide⟩) hK hN hZ hP hD hS [0] rfl hrm rfl rfl hl.1 rfl (Nat.le_of_ble_eq_true rfl) ⟨by show _ ≤ 601181; omega, by show _ ≤ 7292561; omega⟩ dL_law_1256 (fun v9 w9 H locs hp9 hP hD hS => ?_)
  obtain ⟨tM, rM, AM, rfl, hspM, hMM⟩ := hp9
  obtain ⟨rfl, rfl, rfl⟩ : kL = tM ∧ rL = rM ∧ AL = AM := by have h9 := hspL.symm.trans hspM; simp only [Prod.mk.injEq] at h9; exact h9
  have hA9 : aOK AL := by have h9 : aOK (spIfP A (xs (nI (i + 1)).toNatClampNeg)).2.2 := ok_ifP hA; rw [hspL] at h9; exact h9
  refine W.eq (g2 := F0 m 1259 ls [.int rL]) rfl ?_
  refine lv_istore (lv' := [(6, .int rL), (5, .int kL), (4, .int (nI i)), (3, .ref ol), (2, .ref om), (1, .ref ox), (0, .ref b)]) hx hb dL_law_1259 hl (by decide) rfl (fun ls hl => ?_)
  refine lv_aload_n hx hb dL_law_1261 rfl (lv_at hl 4 rfl) ?_
  obtain ⟨fsm, hrm⟩ := mdP_rec hMM
  refine lc_M (As := []) (rest := []) ⟨hx, hb, hml, hown, hts⟩ (k_X5_thrown l D hMM) (cwV 0 hts gL_law_X5_thrown rfl rfl rfl (by decide +kernel) ⟨by decide, by decide⟩) hK hN hZ hP hD hS [0] rfl hrm rfl rfl hl.1 rfl (Nat.le_of_ble_eq_true rfl) ⟨by show _ ≤ 601181; omega, by show _ ≤ 7292561; omega⟩ dL_law_1262 (fun v9 w9 H locs hp9 hP hD hS => ?_)
  obtain ⟨rfl, hMT⟩ := hp9
  refine W.eq (g2 := F0 m 1265 ls [.int kL]) rfl ?_
  refine lv_iload hx hb dL_law_1265 (lv_at hl 1 rfl) ?_
  refine lv_icmp_eq (tgt := 1272) hx hb dL_law_1267 (by decide) (fun _ => ?_) (fun hne => absurd rfl hne)
  refine lv_iload hx hb dL_law_1272 (lv_at hl 1 rfl) ?_
  refine lv_if_ne (tgt := 1289) hx hb dL_law_1274 (by decide) (fun _ => ?_) (fun hk0 => ?_)
  · refine lv_goto (tgt := 1373) hx hb dL_law_1289 (by decide) ?_
    exact kk AL kL wcL w9 gL H locs ls hA9 hCL hMT hP hD hS (lv_sub hl [2, 3, 4, 5, 6] rfl)
  · refine lv_aload_n hx hb dL_law_1277 rfl (lv_at hl 3 rfl) ?_
    refine lv_iconst (v := 0) hx hb dL_law_1278 (by decide) ?_
    refine lc_ld hx hb hK hP 2 rfl dL_law_1279 ?_
    refine lv_iload hx hb dL_law_1280 (lv_at hl 0 rfl) ?_
    refine lv_i2l (v := (rL : Int32).toInt64) hx hb dL_law_1282 rfl ?_
    refine lv_lcmp_eq hx hb (hgL hk0) dL_law_1283 ?_
    refine lv_if_eq (tgt := 1289) hx hb dL_law_1284 (by decide) (fun _ => ?_) (fun hne => absurd rfl hne)
    refine lv_goto (tgt := 1373) hx hb dL_law_1289 (by decide) ?_
    exact kk AL kL wcL w9 gL H locs ls hA9 hCL hMT hP hD hS (lv_sub hl [2, 3, 4, 5, 6] rfl)
set_option maxHeartbeats 2000000 in
set_option maxRecDepth 100000 in
theorem law_21 {p : Program} {l : Launch} {e : Env} {s : State} {m : MethodId} {below : List Frame} {meth : Method} {c : Code} {b L : Nat} {xs : Nat → Int32} {D : va_G} {ox op xO xW xN xC xA xM xG xT xH xR xF xB xX ob oc oh hc hp ot yc yt ol om uS uV uB uT uA uP uR : Nat} {cI cZ cJ : ClassId} {Q : State → Prop} (F : LcF p l s m c b L xs D cI cZ cJ) {i : Nat} (hi : i + 6 ≤ L) (hL : L ≤ 3072) {A : AS} {t : Int32} {wc wm : va_W} {g : Nat → Int64} (hA : aOK A) (hC : ClP ox op xO xW xN xC xA xM xG xT xH xR xF xB xX ob oc oh hc hp ot yc yt cI cZ A wc) (hM : MdP om uS uV uB uT uA uP uR cI t A wm) {H : Heap} {locs : List Loc} {ls : Array Slot} (hP : va_P D vwCl (Wl wc cJ ol g wm) H) (hD : va_D (fun q : Nat => s.heap.size ≤ q) (Wl wc cJ ol g wm)) (hS : va_S (fun q : Nat => s.heap.size ≤ q) s.heap H locs) (hl : lv_has ls 9 [(4, .int (nI i)), (3, .ref ol), (2, .ref om), (1, .ref ox), (0, .ref b)]) {cells slots : Nat} (hc1 : cells + 1 ≤ 601181) (hs1 : slots + 6 ≤ 7292561) (kk : ∀ (A9 : AS) (t9 : Int32) (wc9 wm9 : va_W) (g9 : Nat → Int64) (H9 : Heap) (locs9 : List Loc) (ls9 : Array Slot), aOK A9 → ClP ox op xO xW xN xC xA xM xG xT xH xR xF xB xX ob oc oh hc hp ot yc yt cI cZ A9 wc9 → MdP om uS uV uB uT uA uP uR cI t9 A9 wm9 → va_P D vwCl (Wl wc9 cJ ol g9 wm9) H9 → va_D (fun q : Nat => s.heap.size ≤ q) (Wl wc9 cJ ol g9 wm9) → va_S (fun q : Nat => s.heap.size ≤ q) s.heap H9 locs9 → lv_has ls9 9 [(4, .int (nI i)), (3, .ref ol), (2, .ref om), (1, .ref ox), (0, .ref b)] → W p l e room_1 s m #[Value.ref b] below meth c H9 locs9 (cells + 1) (slots + 6) Q (F0 m 1373 ls9 [])) : W p l e room_1 s m #[Value.ref b] below meth c H locs cells slots Q (F0 m 1292 ls []) := by
  obtain ⟨hfl, hx, hb, hml, hown, hts, hX, hbl, hK, hN, hZ, hT⟩ := F
  have hbA : ¬ (fun q : Nat => s.heap.size ≤ q) b := Nat.not_le.mpr hbl
  refine lv_aload_n hx hb dL_law_1292 rfl (lv_at hl 3 rfl) ?_
  obtain ⟨fsc, hrc⟩ := clP_rec hC
  refine lc_C (As := []) (rest := []) ⟨hx, hb, hml, hown, hts⟩ (k_X4_fullPlans l D hA hC) (cwV 0 hts gL_law_X4_fullPlans rfl rfl rfl (by decide +kernel) ⟨by decide, by decide⟩) hK hN hZ hP hD hS [0, 1] rfl hrc rfl rfl hl.1 rfl (Nat.le_of_ble_eq_true rfl) ⟨by show _ ≤ 601181; omega, by show _ ≤ 7292561; omega⟩ dL_law_1293 (fun v9 w9 H locs hp9 hP hD hS => ?_)
  obtain ⟨rL, AL, rfl, hspL, hCL⟩ := hp9
  refine W.eq (g2 := F0 m 1296 ls [.int rL]) rfl ?_
  refine lv_aload_n hx hb dL_law_1296 rfl (lv_at hl 2 rfl) ?_
  obtain ⟨fsm, hrm⟩ := mdP_rec hM
  refine lc_M (As := []) (rest := [.int rL]) ⟨hx, hb, hml, hown, hts⟩ (k_X5_fullPlans l D hA hM) (cwV 0 hts gL_law_X5_fullPlans rfl rfl rfl (by decide +kernel) ⟨by decide, by decide⟩) hK hN hZ hP hD hS [0] rfl hrm rfl rfl hl.1 rfl (Nat.le_of_ble_eq_true rfl) ⟨by show _ ≤ 601181; omega, by show _ ≤ 7292561; omega⟩ dL_law_1297 (fun v9 w9 H locs hp9 hP hD hS => ?_)
  obtain ⟨tM, rM, AM, rfl, hspM, hMM⟩ := hp9
  obtain ⟨rfl, rfl, rfl⟩ : 0 = tM ∧ rL = rM ∧ AL = AM := by have h9 := hspL.symm.trans hspM; simp only [Prod.mk.injEq] at h9; exact h9
  have hA9 : aOK AL := by have h9 : A = AL := (Prod.mk.inj (Prod.mk.inj hspL).2).2; rw [← h9]; exact hA
  refine W.eq (g2 := F0 m 1300 ls [.int rL, .int rL]) rfl ?_
  refine lv_icmp_eq (tgt := 1373) hx hb dL_law_1300 (by decide) (fun _ => ?_) (fun hne => absurd rfl hne)
  refine W.widen (k := cells + 1) (n := slots + 6) (by omega) (by omega) ?_
  exact kk AL 0 _ _ g H locs ls hA9 hCL hMM hP hD hS (lv_sub hl [0, 1, 2, 3, 4] rfl)
set_option maxHeartbeats 2000000 in
set_option maxRecDepth 100000 in
theorem law_22 {p : Program} {l : Launch} {e : Env} {s : State} {m : MethodId} {below : List Frame} {meth : Method} {c : Code} {b L : Nat} {xs : Nat → Int32} {D : va_G} {ox op xO xW xN xC xA xM xG xT xH xR xF xB xX ob oc oh hc hp ot yc yt ol om uS uV uB uT uA uP uR : Nat} {cI cZ cJ : ClassId} {Q : State → Prop} (F : LcF p l s m c b L xs D cI cZ cJ) {i : Nat} (hi : i + 6 ≤ L) (hL : L ≤ 3072) {A : AS} {t : Int32} {wc wm : va_W} {g : Nat → Int64} (hA : aOK A) (hC : ClP ox op xO xW xN xC xA xM xG xT xH xR xF xB xX ob oc oh hc hp ot yc yt cI cZ A wc) (hM : MdP om uS uV uB uT uA uP uR cI t A wm) {H : Heap} {locs : List Loc} {ls : Array Slot} (hP : va_P D vwCl (Wl wc cJ ol g wm) H) (hD : va_D (fun q : Nat => s.heap.size ≤ q) (Wl wc cJ ol g wm)) (hS : va_S (fun q : Nat => s.heap.size ≤ q) s.heap H locs) (hl : lv_has ls 9 [(4, .int (nI i)), (3, .ref ol), (2, .ref om), (1, .ref ox), (0, .ref b)]) {cells slots : Nat} (hc1 : cells + 1 ≤ 601181) (hs1 : slots + 6 ≤ 7292561) (kk : ∀ (A9 : AS) (t9 : Int32) (wc9 wm9 : va_W) (g9 : Nat → Int64) (H9 : Heap) (locs9 : List Loc) (ls9 : Array Slot), aOK A9 → ClP ox op xO xW xN xC xA xM xG xT xH xR xF xB xX ob oc oh hc hp ot yc yt cI cZ A9 wc9 → MdP om uS uV uB uT uA uP uR cI t9 A9 wm9 → va_P D vwCl (Wl wc9 cJ ol g9 wm9) H9 → va_D (fun q : Nat => s.heap.size ≤ q) (Wl wc9 cJ ol g9 wm9) → va_S (fun q : Nat => s.heap.size ≤ q) s.heap H9 locs9 → lv_has ls9 9 [(4, .int (nI i)), (3, .ref ol), (2, .ref om), (1, .ref ox), (0, .ref b)] → W p l e room_1 s m #[Value.ref b] below meth c H9 locs9 (cells + 1) (slots + 6) Q (F0 m 1373 ls9 [])) : W p l e room_1 s m #[Value.ref b] below meth c H locs cells slots Q (F0 m 1305 ls []) := by
  obtain ⟨hfl, hx, hb, hml, hown, hts, hX, hbl, hK, hN, hZ, hT⟩ := F
  have hbA : ¬ (fun q : Nat => s.heap.size ≤ q) b := Nat.not_le.mpr hbl
  refine lv_aload_n hx hb dL_law_1305 rfl (lv_at hl 3 rfl) ?_
  obtain ⟨fsc, hrc⟩ := clP_rec hC
  refine lc_C (As := []) (rest := []) ⟨hx, hb, hml, hown, hts⟩ (k_X4_dearest l D hA hC) (cwV 0 hts gL_law_X4_dearest rfl rfl rfl (by decide +kernel) ⟨by decide, by decide⟩) hK hN hZ hP hD hS [0, 1] rfl hrc rfl rfl hl.1 rfl (Nat.le_of_ble_eq_true rfl) ⟨by show _ ≤ 601181; omega, by show _ ≤ 7292561; omega⟩ dL_law_1306 (fun v9 w9 H locs hp9 hP hD hS => ?_)
  obtain ⟨rL, AL, rfl, hspL, hCL⟩ := hp9
  refine W.eq (g2 := F0 m 1309 ls [.int rL]) rfl ?_
  refine lv_aload_n hx hb dL_law_1309 rfl (lv_at hl 2 rfl) ?_
  obtain ⟨fsm, hrm⟩ := mdP_rec hM
  refine lc_M (As := []) (rest := [.int rL]) ⟨hx, hb, hml, hown, hts⟩ (k_X5_dearest l D hA hM) (cwV 0 hts gL_law_X5_dearest rfl rfl rfl (by decide +kernel) ⟨by decide, by decide⟩) hK hN hZ hP hD hS [0] rfl hrm rfl rfl hl.1 rfl (Nat.le_of_ble_eq_true rfl) ⟨by show _ ≤ 601181; omega, by show _ ≤ 7292561; omega⟩ dL_law_1310 (fun v9 w9 H locs hp9 hP hD hS => ?_)
  obtain ⟨tM, rM, AM, rfl, hspM, hMM⟩ := hp9
  obtain ⟨rfl, rfl, rfl⟩ : 0 = tM ∧ rL = rM ∧ AL = AM := by have h9 := hspL.symm.trans hspM; simp only [Prod.mk.injEq] at h9; exact h9
  have hA9 : aOK AL := by have h9 : A = AL := (Prod.mk.inj (Prod.mk.inj hspL).2).2; rw [← h9]; exact hA
  refine W.eq (g2 := F0 m 1313 ls [.int rL, .int rL]) rfl ?_
  refine lv_icmp_eq (tgt := 1373) hx hb dL_law_1313 (by decide) (fun _ => ?_) (fun hne => absurd rfl hne)
  refine W.widen (k := cells + 1) (n := slots + 6) (by omega) (by omega) ?_
  exact kk AL 0 _ _ g H locs ls hA9 hCL hMM hP hD hS (lv_sub hl [0, 1, 2, 3, 4] rfl)
set_option maxHeartbeats 2000000 in
set_option maxRecDepth 100000 in
theorem law_23 {p : Program} {l : Launch} {e : Env} {s : State} {m : MethodId} {below : List Frame} {meth : Method} {c : Code} {b L : Nat} {xs : Nat → Int32} {D : va_G} {ox op xO xW xN xC xA xM xG xT xH xR xF xB xX ob oc oh hc hp ot yc yt ol om uS uV uB uT uA uP uR : Nat} {cI cZ cJ : ClassId} {Q : State → Prop} (F : LcF p l s m c b L xs D cI cZ cJ) {i : Nat} (hi : i + 6 ≤ L) (hL : L ≤ 3072) {A : AS} {t : Int32} {wc wm : va_W} {g : Nat → Int64} (hA : aOK A) (hC : ClP ox op xO xW xN xC xA xM xG xT xH xR xF xB xX ob oc oh hc hp ot yc yt cI cZ A wc) (hM : MdP om uS uV uB uT uA uP uR cI t A wm) {H : Heap} {locs : List Loc} {ls : Array Slot} (hP : va_P D vwCl (Wl wc cJ ol g wm) H) (hD : va_D (fun q : Nat => s.heap.size ≤ q) (Wl wc cJ ol g wm)) (hS : va_S (fun q : Nat => s.heap.size ≤ q) s.heap H locs) (hl : lv_has ls 9 [(4, .int (nI i)), (3, .ref ol), (2, .ref om), (1, .ref ox), (0, .ref b)]) {cells slots : Nat} (hc1 : cells + 1 ≤ 601181) (hs1 : slots + 6 ≤ 7292561) (kk : ∀ (A9 : AS) (t9 : Int32) (wc9 wm9 : va_W) (g9 : Nat → Int64) (H9 : Heap) (locs9 : List Loc) (ls9 : Array Slot), aOK A9 → ClP ox op xO xW xN xC xA xM xG xT xH xR xF xB xX ob oc oh hc hp ot yc yt cI cZ A9 wc9 → MdP om uS uV uB uT uA uP uR cI t9 A9 wm9 → va_P D vwCl (Wl wc9 cJ ol g9 wm9) H9 → va_D (fun q : Nat => s.heap.size ≤ q) (Wl wc9 cJ ol g9 wm9) → va_S (fun q : Nat => s.heap.size ≤ q) s.heap H9 locs9 → lv_has ls9 9 [(4, .int (nI i)), (3, .ref ol), (2, .ref om), (1, .ref ox), (0, .ref b)] → W p l e room_1 s m #[Value.ref b] below meth c H9 locs9 (cells + 1) (slots + 6) Q (F0 m 1373 ls9 [])) : W p l e room_1 s m #[Value.ref b] below meth c H locs cells slots Q (F0 m 1318 ls []) := by
  obtain ⟨hfl, hx, hb, hml, hown, hts, hX, hbl, hK, hN, hZ, hT⟩ := F
  have hbA : ¬ (fun q : Nat => s.heap.size ≤ q) b := Nat.not_le.mpr hbl
  refine lv_aload_n hx hb dL_law_1318 rfl (lv_at hl 3 rfl) ?_
  obtain ⟨fsc, hrc⟩ := clP_rec hC
  refine lc_C (As := []) (rest := []) ⟨hx, hb, hml, hown, hts⟩ (k_X4_standingShare l D hA hC) (cwV 0 hts gL_law_X4_standingShare rfl rfl rfl (by decide +kernel) ⟨by decide, by decide⟩) hK hN hZ hP hD hS [0, 1] rfl hrc rfl rfl hl.1 rfl (Nat.le_of_ble_eq_true rfl) ⟨by show _ ≤ 601181; omega, by show _ ≤ 7292561; omega⟩ dL_law_1319 (fun v9 w9 H locs hp9 hP hD hS => ?_)
  obtain ⟨rfl, hCL⟩ := hp9
  refine W.eq (g2 := F0 m 1322 ls [.double (gShare A.1.1 A.1.2)]) rfl ?_
  refine lv_dstore (lv' := [(5, .double (gShare A.1.1 A.1.2)), (4, .int (nI i)), (3, .ref ol), (2, .ref om), (1, .ref ox), (0, .ref b)]) hx hb dL_law_1322 hl (by decide) rfl (fun ls hl => ?_)
  refine lv_aload_n hx hb dL_law_1324 rfl (lv_at hl 3 rfl) ?_
  obtain ⟨fsm, hrm⟩ := mdP_rec hM
  refine lc_M (As := []) (rest := []) ⟨hx, hb, hml, hown, hts⟩ (k_X5_standingShare l D hA hM) (cwV 0 hts gL_law_X5_standingShare rfl rfl rfl (by decide +kernel) ⟨by decide, by decide⟩) hK hN hZ hP hD hS [0] rfl hrm rfl rfl hl.1 rfl (Nat.le_of_ble_eq_true rfl) ⟨by show _ ≤ 601181; omega, by show _ ≤ 7292561; omega⟩ dL_law_1325 (fun v9 w9 H locs hp9 hP hD hS => ?_)
  obtain ⟨rfl, hMM⟩ := hp9
  refine W.eq (g2 := F0 m 1328 ls [.double (gShare A.1.1 A.1.2)]) rfl ?_
  refine lv_dstore (lv' := [(7, .double (gShare A.1.1 A.1.2)), (5, .double (gShare A.1.1 A.1.2)), (4, .int (nI i)), (3, .ref ol), (2, .ref om), (1, .ref ox), (0, .ref b)]) hx hb dL_law_1328 hl (by decide) rfl (fun ls hl => ?_)
  refine lv_dload hx hb dL_law_1330 (lv_at hl 1 rfl) ?_
  refine lv_dload hx hb dL_law_1332 (lv_at hl 0 rfl) ?_
  refine lv_dcmp hx hb dL_law_1334 ?_
  refine lv_asi (y := 0) (by rw [shOK_self (gShare_ok hA.1.1 hA.1.2.1), cmpv_eql]) ?_
  refine lv_if_eq (tgt := 1356) hx hb dL_law_1335 (by decide) (fun _ => ?_) (fun hne => absurd rfl hne)
  refine lv_goto (tgt := 1373) hx hb dL_law_1356 (by decide) ?_
  refine W.widen (k := cells + 1) (n := slots + 6) (by omega) (by omega) ?_
  exact kk A 0 _ _ g H locs ls hA hCL hMM hP hD hS (lv_sub hl [2, 3, 4, 5, 6] rfl)
set_option maxHeartbeats 2000000 in
set_option maxRecDepth 100000 in
theorem law_24 {p : Program} {l : Launch} {e : Env} {s : State} {m : MethodId} {below : List Frame} {meth : Method} {c : Code} {b L : Nat} {xs : Nat → Int32} {D : va_G} {ox op xO xW xN xC xA xM xG xT xH xR xF xB xX ob oc oh hc hp ot yc yt ol om uS uV uB uT uA uP uR : Nat} {cI cZ cJ : ClassId} {Q : State → Prop} (F : LcF p l s m c b L xs D cI cZ cJ) {i : Nat} (hi : i + 6 ≤ L) (hL : L ≤ 3072) {A : AS} {t : Int32} {wc wm : va_W} {g : Nat → Int64} (hA : aOK A) (hC : ClP ox op xO xW xN xC xA xM xG xT xH xR xF xB xX ob oc oh hc hp ot yc yt cI cZ A wc) (hM : MdP om uS uV uB uT uA uP uR cI t A wm) {H : Heap} {locs : List Loc} {ls : Array Slot} (hP : va_P D vwCl (Wl wc cJ ol g wm) H) (hD : va_D (fun q : Nat => s.heap.size ≤ q) (Wl wc cJ ol g wm)) (hS : va_S (fun q : Nat => s.heap.size ≤ q) s.heap H locs) (hl : lv_has ls 9 [(4, .int (nI i)), (3, .ref ol), (2, .ref om), (1, .ref ox), (0, .ref b)]) {cells slots : Nat} (hc1 : cells + 1 ≤ 601181) (hs1 : slots + 6 ≤ 7292561) (kk : ∀ (A9 : AS) (t9 : Int32) (wc9 wm9 : va_W) (g9 : Nat → Int64) (H9 : Heap) (locs9 : List Loc) (ls9 : Array Slot), aOK A9 → ClP ox op xO xW xN xC xA xM xG xT xH xR xF xB xX ob oc oh hc hp ot yc yt cI cZ A9 wc9 → MdP om uS uV uB uT uA uP uR cI t9 A9 wm9 → va_P D vwCl (Wl wc9 cJ ol g9 wm9) H9 → va_D (fun q : Nat => s.heap.size ≤ q) (Wl wc9 cJ ol g9 wm9) → va_S (fun q : Nat => s.heap.size ≤ q) s.heap H9 locs9 → lv_has ls9 9 [(4, .int (nI i)), (3, .ref ol), (2, .ref om), (1, .ref ox), (0, .ref b)] → W p l e room_1 s m #[Value.ref b] below meth c H9 locs9 (cells + 1) (slots + 6) Q (F0 m 1373 ls9 [])) : W p l e room_1 s m #[Value.ref b] below meth c H locs cells slots Q (F0 m 1359 ls []) := by
  obtain ⟨hfl, hx, hb, hml, hown, hts, hX, hbl, hK, hN, hZ, hT⟩ := F
  have hbA : ¬ (fun q : Nat => s.heap.size ≤ q) b := Nat.not_le.mpr hbl
  refine lv_aload_n hx hb dL_law_1359 rfl (lv_at hl 3 rfl) ?_
  obtain ⟨fsc, hrc⟩ := clP_rec hC
  refine lc_C (As := []) (rest := []) ⟨hx, hb, hml, hown, hts⟩ (k_X4_digest l D hA hC) (cwV 0 hts gL_law_X4_digest rfl rfl rfl (by decide +kernel) ⟨by decide, by decide⟩) hK hN hZ hP hD hS [0, 1] rfl hrc rfl rfl hl.1 rfl (Nat.le_of_ble_eq_true rfl) ⟨by show _ ≤ 601181; omega, by show _ ≤ 7292561; omega⟩ dL_law_1360 (fun v9 w9 H locs hp9 hP hD hS => ?_)
  obtain ⟨rfl, hCL⟩ := hp9
  refine W.eq (g2 := F0 m 1363 ls [.long (gDig A)]) rfl ?_
  refine lv_aload_n hx hb dL_law_1363 rfl (lv_at hl 2 rfl) ?_
  obtain ⟨fsm, hrm⟩ := mdP_rec hM
  refine lc_M (As := []) (rest := [.long (gDig A)]) ⟨hx, hb, hml, hown, hts⟩ (k_X5_digest l D hA hM) (cwV 0 hts gL_law_X5_digest rfl rfl rfl (by decide +kernel) ⟨by decide, by decide⟩) hK hN hZ hP hD hS [0] rfl hrm rfl rfl hl.1 rfl (Nat.le_of_ble_eq_true rfl) ⟨by show _ ≤ 601181; omega, by show _ ≤ 7292561; omega⟩ dL_law_1364 (fun v9 w9 H locs hp9 hP hD hS => ?_)
  obtain ⟨rfl, hMM⟩ := hp9
  refine W.eq (g2 := F0 m 1367 ls [.long (gDig A), .long (gDig A)]) rfl ?_
  refine lv_lcmp_eq hx hb rfl dL_law_1367 ?_
  refine lv_if_eq (tgt := 1373) hx hb dL_law_1368 (by decide) (fun _ => ?_) (fun hne => absurd rfl hne)
  refine W.widen (k := cells + 1) (n := slots + 6) (by omega) (by omega) ?_
  exact kk A 0 _ _ g H locs ls hA hCL hMM hP hD hS (lv_sub hl [0, 1, 2, 3, 4] rfl)
