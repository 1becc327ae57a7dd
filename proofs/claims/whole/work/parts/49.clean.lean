theorem wr_mono {l : Launch} {y : MethodName} {ws : List Cond} {rm : Room} {D : va_G} {w : va_W} {tys : List (ClassId × FieldType)} {av : List Value} {post post' : Option Value → va_W → Prop} (h : wr_M l y ws rm D w tys av post) (hp : ∀ (v : Option Value) (w9 : va_W), post v w9 → post' v w9) : wr_M l y ws rm D w tys av post' := by
  unfold wr_M Met at h ⊢
  refine MetFree.mono h (fun a s q => q) (fun _ _ _ _ _ k => k) (fun a s o t _ q => ?_)
  obtain ⟨⟨⟨v, w', h1, h2, h3⟩, h4⟩, h5⟩ := q
  exact ⟨⟨⟨v, w', h1, hp v w' h2, h3⟩, h4⟩, h5⟩
