/-! THE CONTRACTS OVER ANY WORLD THAT TELLS THE STATE -/
theorem clP_rec {ox op xO xW xN xC xA xM xG xT xH xR xF xB xX ob oc oh hc hp ot yc yt : Nat} {cI cZ : ClassId} {A : AS} {wc : va_W} (h : ClP ox op xO xW xN xC xA xM xG xT xH xR xF xB xX ob oc oh hc hp ot yc yt cI cZ A wc) : ∃ fs : List Value, wc[0]? = some (ox, .inr (4, fs)) := by
  obtain ⟨_, _, _, _, _, _, _, _, _, _, _, _, _, _, _, _, _, _, _, _, _, _, _, _, hf, hh, rfl⟩ := h
  exact ⟨_, rfl⟩
theorem mdP_rec {om xS xV xB xT xA xP xR : Nat} {cI : ClassId} {t : Int32} {A : AS} {wm : va_W} (h : MdP om xS xV xB xT xA xP xR cI t A wm) : ∃ fs : List Value, wm[0]? = some (om, .inr (5, fs)) := by
  obtain ⟨_, _, _, _, _, _, _, _, _, _, _, _, hq, hh, rfl⟩ := h
  exact ⟨_, rfl⟩
theorem wc_mono {l : Launch} {y : MethodName} {ws : List Cond} {rm : Room} {D : va_G} {w : va_W} {tys : List (ClassId × FieldType)} {av : List Value} {post post' : Option Value → va_W → Prop} (h : wc_M l y ws rm D w tys av post) (hp : ∀ (v : Option Value) (w9 : va_W), post v w9 → post' v w9) : wc_M l y ws rm D w tys av post' := by
  unfold wc_M at h ⊢
  unfold Met at h ⊢
  refine MetFree.mono h (fun a s q => q) (fun _ _ _ _ _ k => k) (fun a s o t _ q => ?_)
  obtain ⟨⟨⟨v, w9, h1, h2, h3⟩, h4⟩, h5⟩ := q
  exact ⟨⟨⟨v, w9, h1, hp _ _ h2, h3⟩, h4⟩, h5⟩
theorem k_L_add (l : Launch) (hfl : l.stackTraces = false) (D : va_G) {ox op xO xW xN xC xA xM xG xT xH xR xF xB xX ob oc oh hc hp ot yc yt : Nat} {ol : Nat} {cI cZ cJ : ClassId} {A : AS} {wc : va_W} (hA : aOK A) (hC : ClP ox op xO xW xN xC xA xM xG xT xH xR xF xB xX ob oc oh hc hp ot yc yt cI cZ A wc) (x y wd hg wt : Int32) {g : Nat → Int64} : wc_M l yL_add wsL_add ({ frames := 7, cells := 1, slots := 6, locals := 126 } : Room) D (wc ++ [(ol, LgE cJ g)]) [(cI, .int), (cZ, .boolean), (cJ, .long)] [.ref ox, .int x, .int y, .int wd, .int hg, .int wt, .ref ol] (fun v w9 => ∃ (k r : Int32) (A9 : AS) (g9 : Nat → Int64) (wc9 : va_W), v = some (.int k) ∧ spAdd A x y wd hg wt = (k, r, A9) ∧ (k = 0 → g9 0 = r.toInt64) ∧ ClP ox op xO xW xN xC xA xM xG xT xH xR xF xB xX ob oc oh hc hp ot yc yt cI cZ A9 wc9 ∧ w9 = wc9 ++ [(ol, LgE cJ g9)]) := by
  obtain ⟨⟨n, P⟩, ⟨q, hs⟩, ⟨b, co⟩⟩ := A
  obtain ⟨kn7, kS7, kF7, kT7, rg7, pa7, vl7, aO7, aW7, aN7, aC7, aA7, aM7, aG7, aT7, aH7, aR7, aF7, aB7, aX7, f7, zf7, zn7, td7, hf, hh, rfl⟩ := hC
  exact c_L_add l hfl D hA hf hh x y wd hg wt
theorem k_L_remove (l : Launch) (hfl : l.stackTraces = false) (D : va_G) {ox op xO xW xN xC xA xM xG xT xH xR xF xB xX ob oc oh hc hp ot yc yt : Nat} {ol : Nat} {cI cZ cJ : ClassId} {A : AS} {wc : va_W} (hA : aOK A) (hC : ClP ox op xO xW xN xC xA xM xG xT xH xR xF xB xX ob oc oh hc hp ot yc yt cI cZ A wc) (x : Int32) {g : Nat → Int64} : wc_M l yL_remove wsL_remove ({ frames := 7, cells := 1, slots := 6, locals := 123 } : Room) D (wc ++ [(ol, LgE cJ g)]) [(cI, .int), (cZ, .boolean), (cJ, .long)] [.ref ox, .int x, .ref ol] (fun v w9 => ∃ (k r : Int32) (A9 : AS) (g9 : Nat → Int64) (wc9 : va_W), v = some (.int k) ∧ spRemove A x = (k, r, A9) ∧ (k = 0 → g9 0 = r.toInt64) ∧ ClP ox op xO xW xN xC xA xM xG xT xH xR xF xB xX ob oc oh hc hp ot yc yt cI cZ A9 wc9 ∧ w9 = wc9 ++ [(ol, LgE cJ g9)]) := by
  obtain ⟨⟨n, P⟩, ⟨q, hs⟩, ⟨b, co⟩⟩ := A
  obtain ⟨kn7, kS7, kF7, kT7, rg7, pa7, vl7, aO7, aW7, aN7, aC7, aA7, aM7, aG7, aT7, aH7, aR7, aF7, aB7, aX7, f7, zf7, zn7, td7, hf, hh, rfl⟩ := hC
  exact c_L_remove l hfl D hA hf hh x
theorem k_L_weigh (l : Launch) (hfl : l.stackTraces = false) (D : va_G) {ox op xO xW xN xC xA xM xG xT xH xR xF xB xX ob oc oh hc hp ot yc yt : Nat} {ol : Nat} {cI cZ cJ : ClassId} {A : AS} {wc : va_W} (hA : aOK A) (hC : ClP ox op xO xW xN xC xA xM xG xT xH xR xF xB xX ob oc oh hc hp ot yc yt cI cZ A wc) (x y : Int32) {g : Nat → Int64} : wc_M l yL_weigh wsL_weigh ({ frames := 7, cells := 1, slots := 6, locals := 124 } : Room) D (wc ++ [(ol, LgE cJ g)]) [(cI, .int), (cZ, .boolean), (cJ, .long)] [.ref ox, .int x, .int y, .ref ol] (fun v w9 => ∃ (k r : Int32) (A9 : AS) (g9 : Nat → Int64) (wc9 : va_W), v = some (.int k) ∧ spWeigh A x y = (k, r, A9) ∧ (k = 0 → g9 0 = r.toInt64) ∧ ClP ox op xO xW xN xC xA xM xG xT xH xR xF xB xX ob oc oh hc hp ot yc yt cI cZ A9 wc9 ∧ w9 = wc9 ++ [(ol, LgE cJ g9)]) := by
  obtain ⟨⟨n, P⟩, ⟨q, hs⟩, ⟨b, co⟩⟩ := A
  obtain ⟨kn7, kS7, kF7, kT7, rg7, pa7, vl7, aO7, aW7, aN7, aC7, aA7, aM7, aG7, aT7, aH7, aR7, aF7, aB7, aX7, f7, zf7, zn7, td7, hf, hh, rfl⟩ := hC
  exact c_L_weigh l hfl D hA hf hh x y
theorem k_L_resize (l : Launch) (hfl : l.stackTraces = false) (D : va_G) {ox op xO xW xN xC xA xM xG xT xH xR xF xB xX ob oc oh hc hp ot yc yt : Nat} {ol : Nat} {cI cZ cJ : ClassId} {A : AS} {wc : va_W} (hA : aOK A) (hC : ClP ox op xO xW xN xC xA xM xG xT xH xR xF xB xX ob oc oh hc hp ot yc yt cI cZ A wc) (x y z : Int32) {g : Nat → Int64} : wc_M l yL_resize wsL_resize ({ frames := 7, cells := 1, slots := 6, locals := 124 } : Room) D (wc ++ [(ol, LgE cJ g)]) [(cI, .int), (cZ, .boolean), (cJ, .long)] [.ref ox, .int x, .int y, .int z, .ref ol] (fun v w9 => ∃ (k r : Int32) (A9 : AS) (g9 : Nat → Int64) (wc9 : va_W), v = some (.int k) ∧ spResize A x y z = (k, r, A9) ∧ (k = 0 → g9 0 = r.toInt64) ∧ ClP ox op xO xW xN xC xA xM xG xT xH xR xF xB xX ob oc oh hc hp ot yc yt cI cZ A9 wc9 ∧ w9 = wc9 ++ [(ol, LgE cJ g9)]) := by
  obtain ⟨⟨n, P⟩, ⟨q, hs⟩, ⟨b, co⟩⟩ := A
  obtain ⟨kn7, kS7, kF7, kT7, rg7, pa7, vl7, aO7, aW7, aN7, aC7, aA7, aM7, aG7, aT7, aH7, aR7, aF7, aB7, aX7, f7, zf7, zn7, td7, hf, hh, rfl⟩ := hC
  exact c_L_resize l hfl D hA hf hh x y z
theorem k_L_place (l : Launch) (hfl : l.stackTraces = false) (D : va_G) {ox op xO xW xN xC xA xM xG xT xH xR xF xB xX ob oc oh hc hp ot yc yt : Nat} {ol : Nat} {cI cZ cJ : ClassId} {A : AS} {wc : va_W} (hA : aOK A) (hC : ClP ox op xO xW xN xC xA xM xG xT xH xR xF xB xX ob oc oh hc hp ot yc yt cI cZ A wc) (x y : Int32) {g : Nat → Int64} : wc_M l yL_place wsL_place ({ frames := 7, cells := 1, slots := 6, locals := 140 } : Room) D (wc ++ [(ol, LgE cJ g)]) [(cI, .int), (cZ, .boolean), (cJ, .long)] [.ref ox, .int x, .int y, .ref ol] (fun v w9 => ∃ (k r : Int32) (A9 : AS) (g9 : Nat → Int64) (wc9 : va_W), v = some (.int k) ∧ spPlace A x y = (k, r, A9) ∧ (k = 0 → g9 0 = r.toInt64) ∧ ClP ox op xO xW xN xC xA xM xG xT xH xR xF xB xX ob oc oh hc hp ot yc yt cI cZ A9 wc9 ∧ w9 = wc9 ++ [(ol, LgE cJ g9)]) := by
  obtain ⟨⟨n, P⟩, ⟨q, hs⟩, ⟨b, co⟩⟩ := A
  obtain ⟨kn7, kS7, kF7, kT7, rg7, pa7, vl7, aO7, aW7, aN7, aC7, aA7, aM7, aG7, aT7, aH7, aR7, aF7, aB7, aX7, f7, zf7, zn7, td7, hf, hh, rfl⟩ := hC
  exact c_L_place l hfl D hA hf hh x y
theorem k_L_drop (l : Launch) (hfl : l.stackTraces = false) (D : va_G) {ox op xO xW xN xC xA xM xG xT xH xR xF xB xX ob oc oh hc hp ot yc yt : Nat} {ol : Nat} {cI cZ cJ : ClassId} {A : AS} {wc : va_W} (hA : aOK A) (hC : ClP ox op xO xW xN xC xA xM xG xT xH xR xF xB xX ob oc oh hc hp ot yc yt cI cZ A wc) (x : Int32) {g : Nat → Int64} : wc_M l yL_drop wsL_drop ({ frames := 7, cells := 1, slots := 6, locals := 122 } : Room) D (wc ++ [(ol, LgE cJ g)]) [(cI, .int), (cZ, .boolean), (cJ, .long)] [.ref ox, .int x, .ref ol] (fun v w9 => ∃ (k r : Int32) (A9 : AS) (g9 : Nat → Int64) (wc9 : va_W), v = some (.int k) ∧ spDrop A x = (k, r, A9) ∧ (k = 0 → g9 0 = r.toInt64) ∧ ClP ox op xO xW xN xC xA xM xG xT xH xR xF xB xX ob oc oh hc hp ot yc yt cI cZ A9 wc9 ∧ w9 = wc9 ++ [(ol, LgE cJ g9)]) := by
  obtain ⟨⟨n, P⟩, ⟨q, hs⟩, ⟨b, co⟩⟩ := A
  obtain ⟨kn7, kS7, kF7, kT7, rg7, pa7, vl7, aO7, aW7, aN7, aC7, aA7, aM7, aG7, aT7, aH7, aR7, aF7, aB7, aX7, f7, zf7, zn7, td7, hf, hh, rfl⟩ := hC
  exact c_L_drop l hfl D hA hf hh x
theorem k_L_push (l : Launch) (hfl : l.stackTraces = false) (D : va_G) {ox op xO xW xN xC xA xM xG xT xH xR xF xB xX ob oc oh hc hp ot yc yt : Nat} {ol : Nat} {cI cZ cJ : ClassId} {A : AS} {wc : va_W} (hA : aOK A) (hC : ClP ox op xO xW xN xC xA xM xG xT xH xR xF xB xX ob oc oh hc hp ot yc yt cI cZ A wc) (x : Int32) {g : Nat → Int64} : wc_M l yL_push wsL_push ({ frames := 14, cells := 1, slots := 6, locals := 392 } : Room) D (wc ++ [(ol, LgE cJ g)]) [(cI, .int), (cZ, .boolean), (cJ, .long)] [.ref ox, .int x, .ref ol] (fun v w9 => ∃ (k r : Int32) (A9 : AS) (g9 : Nat → Int64) (wc9 : va_W), v = some (.int k) ∧ spPush A x = (k, r, A9) ∧ (k = 0 → g9 0 = r.toInt64) ∧ ClP ox op xO xW xN xC xA xM xG xT xH xR xF xB xX ob oc oh hc hp ot yc yt cI cZ A9 wc9 ∧ w9 = wc9 ++ [(ol, LgE cJ g9)]) := by
  obtain ⟨⟨n, P⟩, ⟨q, hs⟩, ⟨b, co⟩⟩ := A
  obtain ⟨kn7, kS7, kF7, kT7, rg7, pa7, vl7, aO7, aW7, aN7, aC7, aA7, aM7, aG7, aT7, aH7, aR7, aF7, aB7, aX7, f7, zf7, zn7, td7, hf, hh, rfl⟩ := hC
  exact c_L_push l hfl D hA hf hh x
theorem k_L_append (l : Launch) (hfl : l.stackTraces = false) (D : va_G) {ox op xO xW xN xC xA xM xG xT xH xR xF xB xX ob oc oh hc hp ot yc yt : Nat} {ol : Nat} {cI cZ cJ : ClassId} {A : AS} {wc : va_W} (hA : aOK A) (hC : ClP ox op xO xW xN xC xA xM xG xT xH xR xF xB xX ob oc oh hc hp ot yc yt cI cZ A wc) (x : Int32) {g : Nat → Int64} : wc_M l yL_append wsL_append ({ frames := 7, cells := 1, slots := 6, locals := 103 } : Room) D (wc ++ [(ol, LgE cJ g)]) [(cI, .int), (cZ, .boolean), (cJ, .long)] [.ref ox, .int x, .ref ol] (fun v w9 => ∃ (k r : Int32) (A9 : AS) (g9 : Nat → Int64) (wc9 : va_W), v = some (.int k) ∧ spAppend A x = (k, r, A9) ∧ (k = 0 → g9 0 = r.toInt64) ∧ ClP ox op xO xW xN xC xA xM xG xT xH xR xF xB xX ob oc oh hc hp ot yc yt cI cZ A9 wc9 ∧ w9 = wc9 ++ [(ol, LgE cJ g9)]) := by
  obtain ⟨⟨n, P⟩, ⟨q, hs⟩, ⟨b, co⟩⟩ := A
  obtain ⟨kn7, kS7, kF7, kT7, rg7, pa7, vl7, aO7, aW7, aN7, aC7, aA7, aM7, aG7, aT7, aH7, aR7, aF7, aB7, aX7, f7, zf7, zn7, td7, hf, hh, rfl⟩ := hC
  exact c_L_append l hfl D hA hf hh x
theorem k_L_read (l : Launch) (hfl : l.stackTraces = false) (D : va_G) {ox op xO xW xN xC xA xM xG xT xH xR xF xB xX ob oc oh hc hp ot yc yt : Nat} {ol : Nat} {cI cZ cJ : ClassId} {A : AS} {wc : va_W} (hA : aOK A) (hC : ClP ox op xO xW xN xC xA xM xG xT xH xR xF xB xX ob oc oh hc hp ot yc yt cI cZ A wc) {g : Nat → Int64} : wc_M l yL_read wsL_read ({ frames := 7, cells := 1, slots := 6, locals := 144 } : Room) D (wc ++ [(ol, LgE cJ g)]) [(cI, .int), (cZ, .boolean), (cJ, .long)] [.ref ox, .ref ol] (fun v w9 => ∃ (td : Nat → Int32) (k r : Int32) (A9 : AS) (g9 : Nat → Int64) (wc9 : va_W), v = some (.int k) ∧ spRead A td = (k, r, A9) ∧ (k = 0 → g9 0 = r.toInt64) ∧ ClP ox op xO xW xN xC xA xM xG xT xH xR xF xB xX ob oc oh hc hp ot yc yt cI cZ A9 wc9 ∧ w9 = wc9 ++ [(ol, LgE cJ g9)]) := by
  obtain ⟨⟨n, P⟩, ⟨q, hs⟩, ⟨b, co⟩⟩ := A
  obtain ⟨kn7, kS7, kF7, kT7, rg7, pa7, vl7, aO7, aW7, aN7, aC7, aA7, aM7, aG7, aT7, aH7, aR7, aF7, aB7, aX7, f7, zf7, zn7, td7, hf, hh, rfl⟩ := hC
  refine wc_mono (c_L_read l hfl D hA hf hh) ?_
  rintro v w9 ⟨k, r, A9, g9, wc9, h1, h2, h3⟩
  exact ⟨_, k, r, A9, g9, wc9, h1, h2, h3⟩
theorem k_L_undo (l : Launch) (hfl : l.stackTraces = false) (D : va_G) {ox op xO xW xN xC xA xM xG xT xH xR xF xB xX ob oc oh hc hp ot yc yt : Nat} {ol : Nat} {cI cZ cJ : ClassId} {A : AS} {wc : va_W} (hA : aOK A) (hC : ClP ox op xO xW xN xC xA xM xG xT xH xR xF xB xX ob oc oh hc hp ot yc yt cI cZ A wc) {g : Nat → Int64} : wc_M l yL_undo wsL_undo ({ frames := 7, cells := 1, slots := 6, locals := 102 } : Room) D (wc ++ [(ol, LgE cJ g)]) [(cI, .int), (cZ, .boolean), (cJ, .long)] [.ref ox, .ref ol] (fun v w9 => ∃ (k r : Int32) (A9 : AS) (g9 : Nat → Int64) (wc9 : va_W), v = some (.int k) ∧ spUndo A = (k, r, A9) ∧ (k = 0 → g9 0 = r.toInt64) ∧ ClP ox op xO xW xN xC xA xM xG xT xH xR xF xB xX ob oc oh hc hp ot yc yt cI cZ A9 wc9 ∧ w9 = wc9 ++ [(ol, LgE cJ g9)]) := by
  obtain ⟨⟨n, P⟩, ⟨q, hs⟩, ⟨b, co⟩⟩ := A
  obtain ⟨kn7, kS7, kF7, kT7, rg7, pa7, vl7, aO7, aW7, aN7, aC7, aA7, aM7, aG7, aT7, aH7, aR7, aF7, aB7, aX7, f7, zf7, zn7, td7, hf, hh, rfl⟩ := hC
  exact c_L_undo l hfl D hA hf hh
theorem k_L_point (l : Launch) (hfl : l.stackTraces = false) (D : va_G) {ox op xO xW xN xC xA xM xG xT xH xR xF xB xX ob oc oh hc hp ot yc yt : Nat} {ol : Nat} {cI cZ cJ : ClassId} {A : AS} {wc : va_W} (hA : aOK A) (hC : ClP ox op xO xW xN xC xA xM xG xT xH xR xF xB xX ob oc oh hc hp ot yc yt cI cZ A wc) (x y : Int32) {g : Nat → Int64} : wc_M l yL_point wsL_point ({ frames := 7, cells := 1, slots := 6, locals := 162 } : Room) D (wc ++ [(ol, LgE cJ g)]) [(cI, .int), (cZ, .boolean), (cJ, .long)] [.ref ox, .int x, .int y, .ref ol] (fun v w9 => ∃ (k r : Int32) (A9 : AS) (g9 : Nat → Int64) (wc9 : va_W), v = some (.int k) ∧ spPoint A x y = (k, r, A9) ∧ (k = 0 → g9 0 = r.toInt64) ∧ ClP ox op xO xW xN xC xA xM xG xT xH xR xF xB xX ob oc oh hc hp ot yc yt cI cZ A9 wc9 ∧ w9 = wc9 ++ [(ol, LgE cJ g9)]) := by
  obtain ⟨⟨n, P⟩, ⟨q, hs⟩, ⟨b, co⟩⟩ := A
  obtain ⟨kn7, kS7, kF7, kT7, rg7, pa7, vl7, aO7, aW7, aN7, aC7, aA7, aM7, aG7, aT7, aH7, aR7, aF7, aB7, aX7, f7, zf7, zn7, td7, hf, hh, rfl⟩ := hC
  exact c_L_point l hfl D hA hf hh x y
theorem k_L_clash (l : Launch) (hfl : l.stackTraces = false) (D : va_G) {ox op xO xW xN xC xA xM xG xT xH xR xF xB xX ob oc oh hc hp ot yc yt : Nat} {ol : Nat} {cI cZ cJ : ClassId} {A : AS} {wc : va_W} (hA : aOK A) (hC : ClP ox op xO xW xN xC xA xM xG xT xH xR xF xB xX ob oc oh hc hp ot yc yt cI cZ A wc) (x y u z : Int32) {g : Nat → Int64} : wc_M l yL_clash wsL_clash ({ frames := 7, cells := 1, slots := 6, locals := 106 } : Room) D (wc ++ [(ol, LgE cJ g)]) [(cI, .int), (cZ, .boolean), (cJ, .long)] [.ref ox, .int x, .int y, .int u, .int z, .ref ol] (fun v w9 => ∃ (k r : Int32) (A9 : AS) (g9 : Nat → Int64) (wc9 : va_W), v = some (.int k) ∧ spClash A x y u z = (k, r, A9) ∧ (k = 0 → g9 0 = r.toInt64) ∧ ClP ox op xO xW xN xC xA xM xG xT xH xR xF xB xX ob oc oh hc hp ot yc yt cI cZ A9 wc9 ∧ w9 = wc9 ++ [(ol, LgE cJ g9)]) := by
  obtain ⟨⟨n, P⟩, ⟨q, hs⟩, ⟨b, co⟩⟩ := A
  obtain ⟨kn7, kS7, kF7, kT7, rg7, pa7, vl7, aO7, aW7, aN7, aC7, aA7, aM7, aG7, aT7, aH7, aR7, aF7, aB7, aX7, f7, zf7, zn7, td7, hf, hh, rfl⟩ := hC
  exact c_L_clash l hfl D hA hf hh x y u z
theorem k_L_at (l : Launch) (hfl : l.stackTraces = false) (D : va_G) {ox op xO xW xN xC xA xM xG xT xH xR xF xB xX ob oc oh hc hp ot yc yt : Nat} {ol : Nat} {cI cZ cJ : ClassId} {A : AS} {wc : va_W} (hA : aOK A) (hC : ClP ox op xO xW xN xC xA xM xG xT xH xR xF xB xX ob oc oh hc hp ot yc yt cI cZ A wc) (x y : Int32) {g : Nat → Int64} : wc_M l yL_at wsL_at ({ frames := 7, cells := 1, slots := 6, locals := 106 } : Room) D (wc ++ [(ol, LgE cJ g)]) [(cI, .int), (cZ, .boolean), (cJ, .long)] [.ref ox, .int x, .int y, .ref ol] (fun v w9 => ∃ (k r : Int32) (A9 : AS) (g9 : Nat → Int64) (wc9 : va_W), v = some (.int k) ∧ spAt A x y = (k, r, A9) ∧ (k = 0 → g9 0 = r.toInt64) ∧ ClP ox op xO xW xN xC xA xM xG xT xH xR xF xB xX ob oc oh hc hp ot yc yt cI cZ A9 wc9 ∧ w9 = wc9 ++ [(ol, LgE cJ g9)]) := by
  obtain ⟨⟨n, P⟩, ⟨q, hs⟩, ⟨b, co⟩⟩ := A
  obtain ⟨kn7, kS7, kF7, kT7, rg7, pa7, vl7, aO7, aW7, aN7, aC7, aA7, aM7, aG7, aT7, aH7, aR7, aF7, aB7, aX7, f7, zf7, zn7, td7, hf, hh, rfl⟩ := hC
  exact c_L_at l hfl D hA hf hh x y
theorem k_L_count (l : Launch) (hfl : l.stackTraces = false) (D : va_G) {ox op xO xW xN xC xA xM xG xT xH xR xF xB xX ob oc oh hc hp ot yc yt : Nat} {ol : Nat} {cI cZ cJ : ClassId} {A : AS} {wc : va_W} (hA : aOK A) (hC : ClP ox op xO xW xN xC xA xM xG xT xH xR xF xB xX ob oc oh hc hp ot yc yt cI cZ A wc) (x : Int32) {g : Nat → Int64} : wc_M l yL_count wsL_count ({ frames := 7, cells := 1, slots := 6, locals := 163 } : Room) D (wc ++ [(ol, LgE cJ g)]) [(cI, .int), (cZ, .boolean), (cJ, .long)] [.ref ox, .int x, .ref ol] (fun v w9 => ∃ (k r : Int32) (A9 : AS) (g9 : Nat → Int64) (wc9 : va_W), v = some (.int k) ∧ spCount A x = (k, r, A9) ∧ (k = 0 → g9 0 = r.toInt64) ∧ ClP ox op xO xW xN xC xA xM xG xT xH xR xF xB xX ob oc oh hc hp ot yc yt cI cZ A9 wc9 ∧ w9 = wc9 ++ [(ol, LgE cJ g9)]) := by
  obtain ⟨⟨n, P⟩, ⟨q, hs⟩, ⟨b, co⟩⟩ := A
  obtain ⟨kn7, kS7, kF7, kT7, rg7, pa7, vl7, aO7, aW7, aN7, aC7, aA7, aM7, aG7, aT7, aH7, aR7, aF7, aB7, aX7, f7, zf7, zn7, td7, hf, hh, rfl⟩ := hC
  exact c_L_count l hfl D hA hf hh x
theorem k_L_best (l : Launch) (hfl : l.stackTraces = false) (D : va_G) {ox op xO xW xN xC xA xM xG xT xH xR xF xB xX ob oc oh hc hp ot yc yt : Nat} {ol : Nat} {cI cZ cJ : ClassId} {A : AS} {wc : va_W} (hA : aOK A) (hC : ClP ox op xO xW xN xC xA xM xG xT xH xR xF xB xX ob oc oh hc hp ot yc yt cI cZ A wc) (x : Int32) {g : Nat → Int64} : wc_M l yL_best wsL_best ({ frames := 15, cells := 1, slots := 6, locals := 409 } : Room) D (wc ++ [(ol, LgE cJ g)]) [(cI, .int), (cZ, .boolean), (cJ, .long)] [.ref ox, .int x, .ref ol] (fun v w9 => ∃ (k r : Int32) (A9 : AS) (g9 : Nat → Int64) (wc9 : va_W), v = some (.int k) ∧ spBest A x = (k, r, A9) ∧ (k = 0 → g9 0 = r.toInt64) ∧ ClP ox op xO xW xN xC xA xM xG xT xH xR xF xB xX ob oc oh hc hp ot yc yt cI cZ A9 wc9 ∧ w9 = wc9 ++ [(ol, LgE cJ g9)]) := by
  obtain ⟨⟨n, P⟩, ⟨q, hs⟩, ⟨b, co⟩⟩ := A
  obtain ⟨kn7, kS7, kF7, kT7, rg7, pa7, vl7, aO7, aW7, aN7, aC7, aA7, aM7, aG7, aT7, aH7, aR7, aF7, aB7, aX7, f7, zf7, zn7, td7, hf, hh, rfl⟩ := hC
  exact c_L_best l hfl D hA hf hh x
theorem k_L_bestWeight (l : Launch) (hfl : l.stackTraces = false) (D : va_G) {ox op xO xW xN xC xA xM xG xT xH xR xF xB xX ob oc oh hc hp ot yc yt : Nat} {ol : Nat} {cI cZ cJ : ClassId} {A : AS} {wc : va_W} (hA : aOK A) (hC : ClP ox op xO xW xN xC xA xM xG xT xH xR xF xB xX ob oc oh hc hp ot yc yt cI cZ A wc) (x : Int32) {g : Nat → Int64} : wc_M l yL_bestWeight wsL_bestWeight ({ frames := 14, cells := 1, slots := 6, locals := 389 } : Room) D (wc ++ [(ol, LgE cJ g)]) [(cI, .int), (cZ, .boolean), (cJ, .long)] [.ref ox, .int x, .ref ol] (fun v w9 => ∃ (k r : Int32) (A9 : AS) (g9 : Nat → Int64) (wc9 : va_W), v = some (.int k) ∧ spBestW A x = (k, r, A9) ∧ (k = 0 → g9 0 = r.toInt64) ∧ ClP ox op xO xW xN xC xA xM xG xT xH xR xF xB xX ob oc oh hc hp ot yc yt cI cZ A9 wc9 ∧ w9 = wc9 ++ [(ol, LgE cJ g9)]) := by
  obtain ⟨⟨n, P⟩, ⟨q, hs⟩, ⟨b, co⟩⟩ := A
  obtain ⟨kn7, kS7, kF7, kT7, rg7, pa7, vl7, aO7, aW7, aN7, aC7, aA7, aM7, aG7, aT7, aH7, aR7, aF7, aB7, aX7, f7, zf7, zn7, td7, hf, hh, rfl⟩ := hC
  exact c_L_bestWeight l hfl D hA hf hh x
theorem k_L_ifPushed (l : Launch) (hfl : l.stackTraces = false) (D : va_G) {ox op xO xW xN xC xA xM xG xT xH xR xF xB xX ob oc oh hc hp ot yc yt : Nat} {ol : Nat} {cI cZ cJ : ClassId} {A : AS} {wc : va_W} (hA : aOK A) (hC : ClP ox op xO xW xN xC xA xM xG xT xH xR xF xB xX ob oc oh hc hp ot yc yt cI cZ A wc) (x : Int32) {g : Nat → Int64} : wc_M l yL_ifPushed wsL_ifPushed ({ frames := 14, cells := 1, slots := 6, locals := 391 } : Room) D (wc ++ [(ol, LgE cJ g)]) [(cI, .int), (cZ, .boolean), (cJ, .long)] [.ref ox, .int x, .ref ol] (fun v w9 => ∃ (k r : Int32) (A9 : AS) (g9 : Nat → Int64) (wc9 : va_W), v = some (.int k) ∧ spIfP A x = (k, r, A9) ∧ (k = 0 → g9 0 = r.toInt64) ∧ ClP ox op xO xW xN xC xA xM xG xT xH xR xF xB xX ob oc oh hc hp ot yc yt cI cZ A9 wc9 ∧ w9 = wc9 ++ [(ol, LgE cJ g9)]) := by
  obtain ⟨⟨n, P⟩, ⟨q, hs⟩, ⟨b, co⟩⟩ := A
  obtain ⟨kn7, kS7, kF7, kT7, rg7, pa7, vl7, aO7, aW7, aN7, aC7, aA7, aM7, aG7, aT7, aH7, aR7, aF7, aB7, aX7, f7, zf7, zn7, td7, hf, hh, rfl⟩ := hC
  exact c_L_ifPushed l hfl D hA hf hh x
theorem k_X4_solve (l : Launch) (D : va_G) {ox op xO xW xN xC xA xM xG xT xH xR xF xB xX ob oc oh hc hp ot yc yt : Nat} {cI cZ : ClassId} {A : AS} {wc : va_W} (hA : aOK A) (hC : ClP ox op xO xW xN xC xA xM xG xT xH xR xF xB xX ob oc oh hc hp ot yc yt cI cZ A wc) : wr_M l yX4_solve wsX4_solve ({ frames := 13, cells := 0, slots := 0, locals := 368 } : Room) D wc [(cI, .int), (cZ, .boolean)] [.ref ox] (fun v w9 => ∃ (r9 : Int32) (A9 : AS), v = some (.int r9) ∧ spSolve A = (0, r9, A9) ∧ ClP ox op xO xW xN xC xA xM xG xT xH xR xF xB xX ob oc oh hc hp ot yc yt cI cZ A9 w9) := by
  obtain ⟨⟨n, P⟩, ⟨q, hs⟩, ⟨b, co⟩⟩ := A
  obtain ⟨kn7, kS7, kF7, kT7, rg7, pa7, vl7, aO7, aW7, aN7, aC7, aA7, aM7, aG7, aT7, aH7, aR7, aF7, aB7, aX7, f7, zf7, zn7, td7, hf, hh, rfl⟩ := hC
  exact c_X4_solve l D hA hf hh
theorem k_X4_mirror (l : Launch) (D : va_G) {ox op xO xW xN xC xA xM xG xT xH xR xF xB xX ob oc oh hc hp ot yc yt : Nat} {cI cZ : ClassId} {A : AS} {wc : va_W} (hA : aOK A) (hC : ClP ox op xO xW xN xC xA xM xG xT xH xR xF xB xX ob oc oh hc hp ot yc yt cI cZ A wc) : wr_M l yX4_mirror wsX4_mirror ({ frames := 3, cells := 0, slots := 0, locals := 101 } : Room) D wc [(cI, .int), (cZ, .boolean)] [.ref ox] (fun v w9 => ∃ (r9 : Int32) (A9 : AS), v = some (.int r9) ∧ spMirror A = (0, r9, A9) ∧ ClP ox op xO xW xN xC xA xM xG xT xH xR xF xB xX ob oc oh hc hp ot yc yt cI cZ A9 w9) := by
  obtain ⟨⟨n, P⟩, ⟨q, hs⟩, ⟨b, co⟩⟩ := A
  obtain ⟨kn7, kS7, kF7, kT7, rg7, pa7, vl7, aO7, aW7, aN7, aC7, aA7, aM7, aG7, aT7, aH7, aR7, aF7, aB7, aX7, f7, zf7, zn7, td7, hf, hh, rfl⟩ := hC
  exact c_X4_mirror l D hA hf hh
theorem k_X4_clearBuffer (l : Launch) (D : va_G) {ox op xO xW xN xC xA xM xG xT xH xR xF xB xX ob oc oh hc hp ot yc yt : Nat} {cI cZ : ClassId} {A : AS} {wc : va_W} (hA : aOK A) (hC : ClP ox op xO xW xN xC xA xM xG xT xH xR xF xB xX ob oc oh hc hp ot yc yt cI cZ A wc) : wr_M l yX4_clearBuffer wsX4_clearBuffer ({ frames := 0, cells := 0, slots := 0, locals := 0 } : Room) D wc [(cI, .int), (cZ, .boolean)] [.ref ox] (fun v w9 => ∃ (r9 : Int32) (A9 : AS), v = some (.int r9) ∧ spClear A = (0, r9, A9) ∧ ClP ox op xO xW xN xC xA xM xG xT xH xR xF xB xX ob oc oh hc hp ot yc yt cI cZ A9 w9) := by
  obtain ⟨⟨n, P⟩, ⟨q, hs⟩, ⟨b, co⟩⟩ := A
  obtain ⟨kn7, kS7, kF7, kT7, rg7, pa7, vl7, aO7, aW7, aN7, aC7, aA7, aM7, aG7, aT7, aH7, aR7, aF7, aB7, aX7, f7, zf7, zn7, td7, hf, hh, rfl⟩ := hC
  exact c_X4_clearBuffer l D hA hf hh
theorem k_X4_firstError (l : Launch) (D : va_G) {ox op xO xW xN xC xA xM xG xT xH xR xF xB xX ob oc oh hc hp ot yc yt : Nat} {cI cZ : ClassId} {A : AS} {wc : va_W} (hA : aOK A) (hC : ClP ox op xO xW xN xC xA xM xG xT xH xR xF xB xX ob oc oh hc hp ot yc yt cI cZ A wc) : wr_M l yX4_firstError wsX4_firstError ({ frames := 3, cells := 0, slots := 0, locals := 65 } : Room) D wc [(cI, .int), (cZ, .boolean)] [.ref ox] (fun v w9 => ∃ (td : Nat → Int32) (r9 : Int32) (A9 : AS), v = some (.int r9) ∧ spFirst A td = (0, r9, A9) ∧ ClP ox op xO xW xN xC xA xM xG xT xH xR xF xB xX ob oc oh hc hp ot yc yt cI cZ A9 w9) := by
  obtain ⟨⟨n, P⟩, ⟨q, hs⟩, ⟨b, co⟩⟩ := A
  obtain ⟨kn7, kS7, kF7, kT7, rg7, pa7, vl7, aO7, aW7, aN7, aC7, aA7, aM7, aG7, aT7, aH7, aR7, aF7, aB7, aX7, f7, zf7, zn7, td7, hf, hh, rfl⟩ := hC
  refine wr_mono (c_X4_firstError l D hA hf hh) ?_
  rintro v w9 ⟨r9, A9, h1⟩
  exact ⟨_, r9, A9, h1⟩
theorem k_X4_fullPlans (l : Launch) (D : va_G) {ox op xO xW xN xC xA xM xG xT xH xR xF xB xX ob oc oh hc hp ot yc yt : Nat} {cI cZ : ClassId} {A : AS} {wc : va_W} (hA : aOK A) (hC : ClP ox op xO xW xN xC xA xM xG xT xH xR xF xB xX ob oc oh hc hp ot yc yt cI cZ A wc) : wr_M l yX4_fullPlans wsX4_fullPlans ({ frames := 12, cells := 0, slots := 0, locals := 344 } : Room) D wc [(cI, .int), (cZ, .boolean)] [.ref ox] (fun v w9 => ∃ (r9 : Int32) (A9 : AS), v = some (.int r9) ∧ spFull A = (0, r9, A9) ∧ ClP ox op xO xW xN xC xA xM xG xT xH xR xF xB xX ob oc oh hc hp ot yc yt cI cZ A9 w9) := by
  obtain ⟨⟨n, P⟩, ⟨q, hs⟩, ⟨b, co⟩⟩ := A
  obtain ⟨kn7, kS7, kF7, kT7, rg7, pa7, vl7, aO7, aW7, aN7, aC7, aA7, aM7, aG7, aT7, aH7, aR7, aF7, aB7, aX7, f7, zf7, zn7, td7, hf, hh, rfl⟩ := hC
  exact c_X4_fullPlans l D hA hf hh
theorem k_X4_dearest (l : Launch) (D : va_G) {ox op xO xW xN xC xA xM xG xT xH xR xF xB xX ob oc oh hc hp ot yc yt : Nat} {cI cZ : ClassId} {A : AS} {wc : va_W} (hA : aOK A) (hC : ClP ox op xO xW xN xC xA xM xG xT xH xR xF xB xX ob oc oh hc hp ot yc yt cI cZ A wc) : wr_M l yX4_dearest wsX4_dearest ({ frames := 14, cells := 0, slots := 0, locals := 389 } : Room) D wc [(cI, .int), (cZ, .boolean)] [.ref ox] (fun v w9 => ∃ (r9 : Int32) (A9 : AS), v = some (.int r9) ∧ spDear A = (0, r9, A9) ∧ ClP ox op xO xW xN xC xA xM xG xT xH xR xF xB xX ob oc oh hc hp ot yc yt cI cZ A9 w9) := by
  obtain ⟨⟨n, P⟩, ⟨q, hs⟩, ⟨b, co⟩⟩ := A
  obtain ⟨kn7, kS7, kF7, kT7, rg7, pa7, vl7, aO7, aW7, aN7, aC7, aA7, aM7, aG7, aT7, aH7, aR7, aF7, aB7, aX7, f7, zf7, zn7, td7, hf, hh, rfl⟩ := hC
  exact c_X4_dearest l D hA hf hh
theorem k_X4_standingShare (l : Launch) (D : va_G) {ox op xO xW xN xC xA xM xG xT xH xR xF xB xX ob oc oh hc hp ot yc yt : Nat} {cI cZ : ClassId} {A : AS} {wc : va_W} (hA : aOK A) (hC : ClP ox op xO xW xN xC xA xM xG xT xH xR xF xB xX ob oc oh hc hp ot yc yt cI cZ A wc) : wr_M l yX4_standingShare wsX4_standingShare ({ frames := 2, cells := 0, slots := 0, locals := 43 } : Room) D wc [(cI, .int), (cZ, .boolean)] [.ref ox] (fun v w9 => v = some (.double (gShare A.1.1 A.1.2)) ∧ ClP ox op xO xW xN xC xA xM xG xT xH xR xF xB xX ob oc oh hc hp ot yc yt cI cZ A w9) := by
  obtain ⟨⟨n, P⟩, ⟨q, hs⟩, ⟨b, co⟩⟩ := A
  obtain ⟨kn7, kS7, kF7, kT7, rg7, pa7, vl7, aO7, aW7, aN7, aC7, aA7, aM7, aG7, aT7, aH7, aR7, aF7, aB7, aX7, f7, zf7, zn7, td7, hf, hh, rfl⟩ := hC
  refine wr_mono (c_X4_standingShare (P := P) l D hA.1.1 hA.1.2.1 hf) ?_
  rintro v w9 ⟨rfl, rfl⟩
  exact ⟨rfl, _, _, _, _, _, _, _, _, _, _, _, _, _, _, _, _, _, _, _, _, _, _, _, _, hf, hh, rfl⟩
theorem k_X4_digest (l : Launch) (D : va_G) {ox op xO xW xN xC xA xM xG xT xH xR xF xB xX ob oc oh hc hp ot yc yt : Nat} {cI cZ : ClassId} {A : AS} {wc : va_W} (hA : aOK A) (hC : ClP ox op xO xW xN xC xA xM xG xT xH xR xF xB xX ob oc oh hc hp ot yc yt cI cZ A wc) : wr_M l yX4_digest wsX4_digest ({ frames := 14, cells := 0, slots := 0, locals := 396 } : Room) D wc [(cI, .int), (cZ, .boolean)] [.ref ox] (fun v w9 => v = some (.long (gDig A)) ∧ ClP ox op xO xW xN xC xA xM xG xT xH xR xF xB xX ob oc oh hc hp ot yc yt cI cZ A w9) := by
  obtain ⟨⟨n, P⟩, ⟨q, hs⟩, ⟨b, co⟩⟩ := A
  obtain ⟨kn7, kS7, kF7, kT7, rg7, pa7, vl7, aO7, aW7, aN7, aC7, aA7, aM7, aG7, aT7, aH7, aR7, aF7, aB7, aX7, f7, zf7, zn7, td7, hf, hh, rfl⟩ := hC
  refine wr_mono (c_X4_digest (P := P) l D hA.1.1 hA.1.2.1 hf hA.2.2.2 hs) ?_
  rintro v w9 ⟨rfl, _, _, _, _, _, _, _, _, _, _, _, _, _, _, _, _, _, rfl⟩
  exact ⟨rfl, _, _, _, _, _, _, _, _, _, _, _, _, _, _, _, _, _, _, _, _, _, _, _, _, hf, hh, rfl⟩
theorem k_X5_add (l : Launch) (D : va_G) {om xS xV xB xT xA xP xR : Nat} {cI : ClassId} {A : AS} {t : Int32} {wm : va_W} (hA : aOK A) (hM : MdP om xS xV xB xT xA xP xR cI t A wm) (x y wd hg wt : Int32) : wr_M l yX5_add wsX5_add ({ frames := 5, cells := 0, slots := 0, locals := 116 } : Room) D wm [(cI, .int)] [.ref om, .int x, .int y, .int wd, .int hg, .int wt] (fun v w9 => ∃ (t9 r9 : Int32) (A9 : AS), v = some (.int r9) ∧ spAdd A x y wd hg wt = (t9, r9, A9) ∧ MdP om xS xV xB xT xA xP xR cI t9 A9 w9) := by
  obtain ⟨⟨n, P⟩, ⟨q, hs⟩, ⟨b, co⟩⟩ := A
  obtain ⟨kBs7, kLf7, kAt7, kWl7, kRm7, hsh7, mS7, mSv7, mTl7, mAl7, mPl7, mRd7, hQ, hH, rfl⟩ := hM
  exact s_X5_add l D hA hQ hH x y wd hg wt
theorem k_X5_remove (l : Launch) (D : va_G) {om xS xV xB xT xA xP xR : Nat} {cI : ClassId} {A : AS} {t : Int32} {wm : va_W} (hA : aOK A) (hM : MdP om xS xV xB xT xA xP xR cI t A wm) (x : Int32) : wr_M l yX5_remove wsX5_remove ({ frames := 7, cells := 0, slots := 0, locals := 160 } : Room) D wm [(cI, .int)] [.ref om, .int x] (fun v w9 => ∃ (t9 r9 : Int32) (A9 : AS), v = some (.int r9) ∧ spRemove A x = (t9, r9, A9) ∧ MdP om xS xV xB xT xA xP xR cI t9 A9 w9) := by
  obtain ⟨⟨n, P⟩, ⟨q, hs⟩, ⟨b, co⟩⟩ := A
  obtain ⟨kBs7, kLf7, kAt7, kWl7, kRm7, hsh7, mS7, mSv7, mTl7, mAl7, mPl7, mRd7, hQ, hH, rfl⟩ := hM
  exact s_X5_remove l D hA hQ hH x
theorem k_X5_weigh (l : Launch) (D : va_G) {om xS xV xB xT xA xP xR : Nat} {cI : ClassId} {A : AS} {t : Int32} {wm : va_W} (hA : aOK A) (hM : MdP om xS xV xB xT xA xP xR cI t A wm) (x y : Int32) : wr_M l yX5_weigh wsX5_weigh ({ frames := 2, cells := 0, slots := 0, locals := 43 } : Room) D wm [(cI, .int)] [.ref om, .int x, .int y] (fun v w9 => ∃ (t9 r9 : Int32) (A9 : AS), v = some (.int r9) ∧ spWeigh A x y = (t9, r9, A9) ∧ MdP om xS xV xB xT xA xP xR cI t9 A9 w9) := by
  obtain ⟨⟨n, P⟩, ⟨q, hs⟩, ⟨b, co⟩⟩ := A
  obtain ⟨kBs7, kLf7, kAt7, kWl7, kRm7, hsh7, mS7, mSv7, mTl7, mAl7, mPl7, mRd7, hQ, hH, rfl⟩ := hM
  exact s_X5_weigh l D hA hQ hH x y
theorem k_X5_resize (l : Launch) (D : va_G) {om xS xV xB xT xA xP xR : Nat} {cI : ClassId} {A : AS} {t : Int32} {wm : va_W} (hA : aOK A) (hM : MdP om xS xV xB xT xA xP xR cI t A wm) (x y z : Int32) : wr_M l yX5_resize wsX5_resize ({ frames := 6, cells := 0, slots := 0, locals := 137 } : Room) D wm [(cI, .int)] [.ref om, .int x, .int y, .int z] (fun v w9 => ∃ (t9 r9 : Int32) (A9 : AS), v = some (.int r9) ∧ spResize A x y z = (t9, r9, A9) ∧ MdP om xS xV xB xT xA xP xR cI t9 A9 w9) := by
  obtain ⟨⟨n, P⟩, ⟨q, hs⟩, ⟨b, co⟩⟩ := A
  obtain ⟨kBs7, kLf7, kAt7, kWl7, kRm7, hsh7, mS7, mSv7, mTl7, mAl7, mPl7, mRd7, hQ, hH, rfl⟩ := hM
  exact s_X5_resize l D hA hQ hH x y z
theorem k_X5_place (l : Launch) (D : va_G) {om xS xV xB xT xA xP xR : Nat} {cI : ClassId} {A : AS} {t : Int32} {wm : va_W} (hA : aOK A) (hM : MdP om xS xV xB xT xA xP xR cI t A wm) (x y : Int32) : wr_M l yX5_place wsX5_place ({ frames := 6, cells := 0, slots := 0, locals := 138 } : Room) D wm [(cI, .int)] [.ref om, .int x, .int y] (fun v w9 => ∃ (t9 r9 : Int32) (A9 : AS), v = some (.int r9) ∧ spPlace A x y = (t9, r9, A9) ∧ MdP om xS xV xB xT xA xP xR cI t9 A9 w9) := by
  obtain ⟨⟨n, P⟩, ⟨q, hs⟩, ⟨b, co⟩⟩ := A
  obtain ⟨kBs7, kLf7, kAt7, kWl7, kRm7, hsh7, mS7, mSv7, mTl7, mAl7, mPl7, mRd7, hQ, hH, rfl⟩ := hM
  exact s_X5_place l D hA hQ hH x y
theorem k_X5_drop (l : Launch) (D : va_G) {om xS xV xB xT xA xP xR : Nat} {cI : ClassId} {A : AS} {t : Int32} {wm : va_W} (hA : aOK A) (hM : MdP om xS xV xB xT xA xP xR cI t A wm) (x : Int32) : wr_M l yX5_drop wsX5_drop ({ frames := 2, cells := 0, slots := 0, locals := 43 } : Room) D wm [(cI, .int)] [.ref om, .int x] (fun v w9 => ∃ (t9 r9 : Int32) (A9 : AS), v = some (.int r9) ∧ spDrop A x = (t9, r9, A9) ∧ MdP om xS xV xB xT xA xP xR cI t9 A9 w9) := by
  obtain ⟨⟨n, P⟩, ⟨q, hs⟩, ⟨b, co⟩⟩ := A
  obtain ⟨kBs7, kLf7, kAt7, kWl7, kRm7, hsh7, mS7, mSv7, mTl7, mAl7, mPl7, mRd7, hQ, hH, rfl⟩ := hM
  exact s_X5_drop l D hA hQ hH x
theorem k_X5_push (l : Launch) (D : va_G) {om xS xV xB xT xA xP xR : Nat} {cI : ClassId} {A : AS} {t : Int32} {wm : va_W} (hA : aOK A) (hM : MdP om xS xV xB xT xA xP xR cI t A wm) (x : Int32) : wr_M l yX5_push wsX5_push ({ frames := 7, cells := 0, slots := 0, locals := 160 } : Room) D wm [(cI, .int)] [.ref om, .int x] (fun v w9 => ∃ (t9 r9 : Int32) (A9 : AS), v = some (.int r9) ∧ spPush A x = (t9, r9, A9) ∧ MdP om xS xV xB xT xA xP xR cI t9 A9 w9) := by
  obtain ⟨⟨n, P⟩, ⟨q, hs⟩, ⟨b, co⟩⟩ := A
  obtain ⟨kBs7, kLf7, kAt7, kWl7, kRm7, hsh7, mS7, mSv7, mTl7, mAl7, mPl7, mRd7, hQ, hH, rfl⟩ := hM
  exact s_X5_push l D hA hQ hH x
theorem k_X5_append (l : Launch) (D : va_G) {om xS xV xB xT xA xP xR : Nat} {cI : ClassId} {A : AS} {t : Int32} {wm : va_W} (hA : aOK A) (hM : MdP om xS xV xB xT xA xP xR cI t A wm) (x : Int32) : wr_M l yX5_append wsX5_append ({ frames := 1, cells := 0, slots := 0, locals := 22 } : Room) D wm [(cI, .int)] [.ref om, .int x] (fun v w9 => ∃ (t9 r9 : Int32) (A9 : AS), v = some (.int r9) ∧ spAppend A x = (t9, r9, A9) ∧ MdP om xS xV xB xT xA xP xR cI t9 A9 w9) := by
  obtain ⟨⟨n, P⟩, ⟨q, hs⟩, ⟨b, co⟩⟩ := A
  obtain ⟨kBs7, kLf7, kAt7, kWl7, kRm7, hsh7, mS7, mSv7, mTl7, mAl7, mPl7, mRd7, hQ, hH, rfl⟩ := hM
  exact s_X5_append l D hA hQ hH x
theorem k_X5_read (l : Launch) (D : va_G) {om xS xV xB xT xA xP xR : Nat} {cI : ClassId} {A : AS} {t : Int32} {wm : va_W} (hA : aOK A) (hM : MdP om xS xV xB xT xA xP xR cI t A wm) (td : Nat → Int32) : wr_M l yX5_read wsX5_read ({ frames := 5, cells := 0, slots := 0, locals := 116 } : Room) D wm [(cI, .int)] [.ref om] (fun v w9 => ∃ (t9 r9 : Int32) (A9 : AS), v = some (.int r9) ∧ spRead A td = (t9, r9, A9) ∧ MdP om xS xV xB xT xA xP xR cI t9 A9 w9) := by
  obtain ⟨⟨n, P⟩, ⟨q, hs⟩, ⟨b, co⟩⟩ := A
  obtain ⟨kBs7, kLf7, kAt7, kWl7, kRm7, hsh7, mS7, mSv7, mTl7, mAl7, mPl7, mRd7, hQ, hH, rfl⟩ := hM
  exact s_X5_read l D hA hQ hH td
theorem k_X5_undo (l : Launch) (D : va_G) {om xS xV xB xT xA xP xR : Nat} {cI : ClassId} {A : AS} {t : Int32} {wm : va_W} (hA : aOK A) (hM : MdP om xS xV xB xT xA xP xR cI t A wm) : wr_M l yX5_undo wsX5_undo ({ frames := 1, cells := 0, slots := 0, locals := 21 } : Room) D wm [(cI, .int)] [.ref om] (fun v w9 => ∃ (t9 r9 : Int32) (A9 : AS), v = some (.int r9) ∧ spUndo A = (t9, r9, A9) ∧ MdP om xS xV xB xT xA xP xR cI t9 A9 w9) := by
  obtain ⟨⟨n, P⟩, ⟨q, hs⟩, ⟨b, co⟩⟩ := A
  obtain ⟨kBs7, kLf7, kAt7, kWl7, kRm7, hsh7, mS7, mSv7, mTl7, mAl7, mPl7, mRd7, hQ, hH, rfl⟩ := hM
  exact s_X5_undo l D hA hQ hH
theorem k_X5_point (l : Launch) (D : va_G) {om xS xV xB xT xA xP xR : Nat} {cI : ClassId} {A : AS} {t : Int32} {wm : va_W} (hA : aOK A) (hM : MdP om xS xV xB xT xA xP xR cI t A wm) (x y : Int32) : wr_M l yX5_point wsX5_point ({ frames := 8, cells := 0, slots := 0, locals := 183 } : Room) D wm [(cI, .int)] [.ref om, .int x, .int y] (fun v w9 => ∃ (t9 r9 : Int32) (A9 : AS), v = some (.int r9) ∧ spPoint A x y = (t9, r9, A9) ∧ MdP om xS xV xB xT xA xP xR cI t9 A9 w9) := by
  obtain ⟨⟨n, P⟩, ⟨q, hs⟩, ⟨b, co⟩⟩ := A
  obtain ⟨kBs7, kLf7, kAt7, kWl7, kRm7, hsh7, mS7, mSv7, mTl7, mAl7, mPl7, mRd7, hQ, hH, rfl⟩ := hM
  exact s_X5_point l D hA hQ hH x y
theorem k_X5_clash (l : Launch) (D : va_G) {om xS xV xB xT xA xP xR : Nat} {cI : ClassId} {A : AS} {t : Int32} {wm : va_W} (hA : aOK A) (hM : MdP om xS xV xB xT xA xP xR cI t A wm) (x y u z : Int32) : wr_M l yX5_clash wsX5_clash ({ frames := 4, cells := 0, slots := 0, locals := 92 } : Room) D wm [(cI, .int)] [.ref om, .int x, .int y, .int u, .int z] (fun v w9 => ∃ (t9 r9 : Int32) (A9 : AS), v = some (.int r9) ∧ spClash A x y u z = (t9, r9, A9) ∧ MdP om xS xV xB xT xA xP xR cI t9 A9 w9) := by
  obtain ⟨⟨n, P⟩, ⟨q, hs⟩, ⟨b, co⟩⟩ := A
  obtain ⟨kBs7, kLf7, kAt7, kWl7, kRm7, hsh7, mS7, mSv7, mTl7, mAl7, mPl7, mRd7, hQ, hH, rfl⟩ := hM
  exact s_X5_clash l D hA hQ hH x y u z
theorem k_X5_at (l : Launch) (D : va_G) {om xS xV xB xT xA xP xR : Nat} {cI : ClassId} {A : AS} {t : Int32} {wm : va_W} (hA : aOK A) (hM : MdP om xS xV xB xT xA xP xR cI t A wm) (x y : Int32) : wr_M l yX5_at wsX5_at ({ frames := 5, cells := 0, slots := 0, locals := 113 } : Room) D wm [(cI, .int)] [.ref om, .int x, .int y] (fun v w9 => ∃ (t9 r9 : Int32) (A9 : AS), v = some (.int r9) ∧ spAt A x y = (t9, r9, A9) ∧ MdP om xS xV xB xT xA xP xR cI t9 A9 w9) := by
  obtain ⟨⟨n, P⟩, ⟨q, hs⟩, ⟨b, co⟩⟩ := A
  obtain ⟨kBs7, kLf7, kAt7, kWl7, kRm7, hsh7, mS7, mSv7, mTl7, mAl7, mPl7, mRd7, hQ, hH, rfl⟩ := hM
  exact s_X5_at l D hA hQ hH x y
theorem k_X5_count (l : Launch) (D : va_G) {om xS xV xB xT xA xP xR : Nat} {cI : ClassId} {A : AS} {t : Int32} {wm : va_W} (hA : aOK A) (hM : MdP om xS xV xB xT xA xP xR cI t A wm) (x : Int32) : wr_M l yX5_count wsX5_count ({ frames := 8, cells := 0, slots := 0, locals := 182 } : Room) D wm [(cI, .int)] [.ref om, .int x] (fun v w9 => ∃ (t9 r9 : Int32) (A9 : AS), v = some (.int r9) ∧ spCount A x = (t9, r9, A9) ∧ MdP om xS xV xB xT xA xP xR cI t9 A9 w9) := by
  obtain ⟨⟨n, P⟩, ⟨q, hs⟩, ⟨b, co⟩⟩ := A
  obtain ⟨kBs7, kLf7, kAt7, kWl7, kRm7, hsh7, mS7, mSv7, mTl7, mAl7, mPl7, mRd7, hQ, hH, rfl⟩ := hM
  exact s_X5_count l D hA hQ hH x
theorem k_X5_best (l : Launch) (D : va_G) {om xS xV xB xT xA xP xR : Nat} {cI : ClassId} {A : AS} {t : Int32} {wm : va_W} (hA : aOK A) (hM : MdP om xS xV xB xT xA xP xR cI t A wm) (x : Int32) : wr_M l yX5_best wsX5_best ({ frames := 8, cells := 0, slots := 0, locals := 181 } : Room) D wm [(cI, .int)] [.ref om, .int x] (fun v w9 => ∃ (t9 r9 : Int32) (A9 : AS), v = some (.int r9) ∧ spBest A x = (t9, r9, A9) ∧ MdP om xS xV xB xT xA xP xR cI t9 A9 w9) := by
  obtain ⟨⟨n, P⟩, ⟨q, hs⟩, ⟨b, co⟩⟩ := A
  obtain ⟨kBs7, kLf7, kAt7, kWl7, kRm7, hsh7, mS7, mSv7, mTl7, mAl7, mPl7, mRd7, hQ, hH, rfl⟩ := hM
  exact s_X5_best l D hA hQ hH x
theorem k_X5_bestWeight (l : Launch) (D : va_G) {om xS xV xB xT xA xP xR : Nat} {cI : ClassId} {A : AS} {t : Int32} {wm : va_W} (hA : aOK A) (hM : MdP om xS xV xB xT xA xP xR cI t A wm) (x : Int32) : wr_M l yX5_bestWeight wsX5_bestWeight ({ frames := 7, cells := 0, slots := 0, locals := 160 } : Room) D wm [(cI, .int)] [.ref om, .int x] (fun v w9 => ∃ (t9 r9 : Int32) (A9 : AS), v = some (.int r9) ∧ spBestW A x = (t9, r9, A9) ∧ MdP om xS xV xB xT xA xP xR cI t9 A9 w9) := by
  obtain ⟨⟨n, P⟩, ⟨q, hs⟩, ⟨b, co⟩⟩ := A
  obtain ⟨kBs7, kLf7, kAt7, kWl7, kRm7, hsh7, mS7, mSv7, mTl7, mAl7, mPl7, mRd7, hQ, hH, rfl⟩ := hM
  exact s_X5_bestWeight l D hA hQ hH x
theorem k_X5_ifPushed (l : Launch) (D : va_G) {om xS xV xB xT xA xP xR : Nat} {cI : ClassId} {A : AS} {t : Int32} {wm : va_W} (hA : aOK A) (hM : MdP om xS xV xB xT xA xP xR cI t A wm) (x : Int32) : wr_M l yX5_ifPushed wsX5_ifPushed ({ frames := 7, cells := 0, slots := 0, locals := 160 } : Room) D wm [(cI, .int)] [.ref om, .int x] (fun v w9 => ∃ (t9 r9 : Int32) (A9 : AS), v = some (.int r9) ∧ spIfP A x = (t9, r9, A9) ∧ MdP om xS xV xB xT xA xP xR cI t9 A9 w9) := by
  obtain ⟨⟨n, P⟩, ⟨q, hs⟩, ⟨b, co⟩⟩ := A
  obtain ⟨kBs7, kLf7, kAt7, kWl7, kRm7, hsh7, mS7, mSv7, mTl7, mAl7, mPl7, mRd7, hQ, hH, rfl⟩ := hM
  exact s_X5_ifPushed l D hA hQ hH x
theorem k_X5_solve (l : Launch) (D : va_G) {om xS xV xB xT xA xP xR : Nat} {cI : ClassId} {A : AS} {t : Int32} {wm : va_W} (hA : aOK A) (hM : MdP om xS xV xB xT xA xP xR cI t A wm) : wr_M l yX5_solve wsX5_solve ({ frames := 7, cells := 0, slots := 0, locals := 160 } : Room) D wm [(cI, .int)] [.ref om] (fun v w9 => ∃ (t9 r9 : Int32) (A9 : AS), v = some (.int r9) ∧ spSolve A = (t9, r9, A9) ∧ MdP om xS xV xB xT xA xP xR cI t9 A9 w9) := by
  obtain ⟨⟨n, P⟩, ⟨q, hs⟩, ⟨b, co⟩⟩ := A
  obtain ⟨kBs7, kLf7, kAt7, kWl7, kRm7, hsh7, mS7, mSv7, mTl7, mAl7, mPl7, mRd7, hQ, hH, rfl⟩ := hM
  exact s_X5_solve l D hA hQ hH
theorem k_X5_mirror (l : Launch) (D : va_G) {om xS xV xB xT xA xP xR : Nat} {cI : ClassId} {A : AS} {t : Int32} {wm : va_W} (hA : aOK A) (hM : MdP om xS xV xB xT xA xP xR cI t A wm) : wr_M l yX5_mirror wsX5_mirror ({ frames := 3, cells := 0, slots := 0, locals := 65 } : Room) D wm [(cI, .int)] [.ref om] (fun v w9 => ∃ (t9 r9 : Int32) (A9 : AS), v = some (.int r9) ∧ spMirror A = (t9, r9, A9) ∧ MdP om xS xV xB xT xA xP xR cI t9 A9 w9) := by
  obtain ⟨⟨n, P⟩, ⟨q, hs⟩, ⟨b, co⟩⟩ := A
  obtain ⟨kBs7, kLf7, kAt7, kWl7, kRm7, hsh7, mS7, mSv7, mTl7, mAl7, mPl7, mRd7, hQ, hH, rfl⟩ := hM
  exact s_X5_mirror l D hA hQ hH
theorem k_X5_clearBuffer (l : Launch) (D : va_G) {om xS xV xB xT xA xP xR : Nat} {cI : ClassId} {A : AS} {t : Int32} {wm : va_W} (hA : aOK A) (hM : MdP om xS xV xB xT xA xP xR cI t A wm) : wr_M l yX5_clearBuffer wsX5_clearBuffer ({ frames := 0, cells := 0, slots := 0, locals := 0 } : Room) D wm [(cI, .int)] [.ref om] (fun v w9 => ∃ (t9 r9 : Int32) (A9 : AS), v = some (.int r9) ∧ spClear A = (t9, r9, A9) ∧ MdP om xS xV xB xT xA xP xR cI t9 A9 w9) := by
  obtain ⟨⟨n, P⟩, ⟨q, hs⟩, ⟨b, co⟩⟩ := A
  obtain ⟨kBs7, kLf7, kAt7, kWl7, kRm7, hsh7, mS7, mSv7, mTl7, mAl7, mPl7, mRd7, hQ, hH, rfl⟩ := hM
  exact s_X5_clearBuffer l D hA hQ hH
theorem k_X5_firstError (l : Launch) (D : va_G) {om xS xV xB xT xA xP xR : Nat} {cI : ClassId} {A : AS} {t : Int32} {wm : va_W} (hA : aOK A) (hM : MdP om xS xV xB xT xA xP xR cI t A wm) (td : Nat → Int32) : wr_M l yX5_firstError wsX5_firstError ({ frames := 4, cells := 0, slots := 0, locals := 86 } : Room) D wm [(cI, .int)] [.ref om] (fun v w9 => ∃ (t9 r9 : Int32) (A9 : AS), v = some (.int r9) ∧ spFirst A td = (t9, r9, A9) ∧ MdP om xS xV xB xT xA xP xR cI t9 A9 w9) := by
  obtain ⟨⟨n, P⟩, ⟨q, hs⟩, ⟨b, co⟩⟩ := A
  obtain ⟨kBs7, kLf7, kAt7, kWl7, kRm7, hsh7, mS7, mSv7, mTl7, mAl7, mPl7, mRd7, hQ, hH, rfl⟩ := hM
  exact s_X5_firstError l D hA hQ hH td
theorem k_X5_fullPlans (l : Launch) (D : va_G) {om xS xV xB xT xA xP xR : Nat} {cI : ClassId} {A : AS} {t : Int32} {wm : va_W} (hA : aOK A) (hM : MdP om xS xV xB xT xA xP xR cI t A wm) : wr_M l yX5_fullPlans wsX5_fullPlans ({ frames := 7, cells := 0, slots := 0, locals := 159 } : Room) D wm [(cI, .int)] [.ref om] (fun v w9 => ∃ (t9 r9 : Int32) (A9 : AS), v = some (.int r9) ∧ spFull A = (t9, r9, A9) ∧ MdP om xS xV xB xT xA xP xR cI t9 A9 w9) := by
  obtain ⟨⟨n, P⟩, ⟨q, hs⟩, ⟨b, co⟩⟩ := A
  obtain ⟨kBs7, kLf7, kAt7, kWl7, kRm7, hsh7, mS7, mSv7, mTl7, mAl7, mPl7, mRd7, hQ, hH, rfl⟩ := hM
  exact s_X5_fullPlans l D hA hQ hH
theorem k_X5_dearest (l : Launch) (D : va_G) {om xS xV xB xT xA xP xR : Nat} {cI : ClassId} {A : AS} {t : Int32} {wm : va_W} (hA : aOK A) (hM : MdP om xS xV xB xT xA xP xR cI t A wm) : wr_M l yX5_dearest wsX5_dearest ({ frames := 8, cells := 0, slots := 0, locals := 184 } : Room) D wm [(cI, .int)] [.ref om] (fun v w9 => ∃ (t9 r9 : Int32) (A9 : AS), v = some (.int r9) ∧ spDear A = (t9, r9, A9) ∧ MdP om xS xV xB xT xA xP xR cI t9 A9 w9) := by
  obtain ⟨⟨n, P⟩, ⟨q, hs⟩, ⟨b, co⟩⟩ := A
  obtain ⟨kBs7, kLf7, kAt7, kWl7, kRm7, hsh7, mS7, mSv7, mTl7, mAl7, mPl7, mRd7, hQ, hH, rfl⟩ := hM
  exact s_X5_dearest l D hA hQ hH
theorem k_X5_standingShare (l : Launch) (D : va_G) {om xS xV xB xT xA xP xR : Nat} {cI : ClassId} {A : AS} {t : Int32} {wm : va_W} (hA : aOK A) (hM : MdP om xS xV xB xT xA xP xR cI t A wm) : wr_M l yX5_standingShare wsX5_standingShare ({ frames := 4, cells := 0, slots := 0, locals := 88 } : Room) D wm [(cI, .int)] [.ref om] (fun v w9 => v = some (.double (gShare A.1.1 A.1.2)) ∧ MdP om xS xV xB xT xA xP xR cI 0 A w9) := by
  obtain ⟨⟨n, P⟩, ⟨q, hs⟩, ⟨b, co⟩⟩ := A
  obtain ⟨kBs7, kLf7, kAt7, kWl7, kRm7, hsh7, mS7, mSv7, mTl7, mAl7, mPl7, mRd7, hQ, hH, rfl⟩ := hM
  exact s_X5_standingShare l D hA hQ hH
theorem k_X5_digest (l : Launch) (D : va_G) {om xS xV xB xT xA xP xR : Nat} {cI : ClassId} {A : AS} {t : Int32} {wm : va_W} (hA : aOK A) (hM : MdP om xS xV xB xT xA xP xR cI t A wm) : wr_M l yX5_digest wsX5_digest ({ frames := 8, cells := 0, slots := 0, locals := 184 } : Room) D wm [(cI, .int)] [.ref om] (fun v w9 => v = some (.long (gDig A)) ∧ MdP om xS xV xB xT xA xP xR cI 0 A w9) := by
  obtain ⟨⟨n, P⟩, ⟨q, hs⟩, ⟨b, co⟩⟩ := A
  obtain ⟨kBs7, kLf7, kAt7, kWl7, kRm7, hsh7, mS7, mSv7, mTl7, mAl7, mPl7, mRd7, hQ, hH, rfl⟩ := hM
  exact s_X5_digest l D hA hQ hH
theorem k_X5_thrown (l : Launch) (D : va_G) {om xS xV xB xT xA xP xR : Nat} {cI : ClassId} {A : AS} {t : Int32} {wm : va_W} (hM : MdP om xS xV xB xT xA xP xR cI t A wm) : wr_M l yX5_thrown wsX5_thrown ({ frames := 0, cells := 0, slots := 0, locals := 0 } : Room) D wm [(cI, .int)] [.ref om] (fun v w9 => v = some (.int t) ∧ MdP om xS xV xB xT xA xP xR cI t A w9) := by
  obtain ⟨⟨n, P⟩, ⟨q, hs⟩, ⟨b, co⟩⟩ := A
  obtain ⟨kBs7, kLf7, kAt7, kWl7, kRm7, hsh7, mS7, mSv7, mTl7, mAl7, mPl7, mRd7, hQ, hH, rfl⟩ := hM
  refine wr_mono (c_X5_thrown l D) ?_
  rintro v w9 ⟨rfl, rfl⟩
  exact ⟨rfl, _, _, _, _, _, _, _, _, _, _, _, _, hQ, hH, rfl⟩
