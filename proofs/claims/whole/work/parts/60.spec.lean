/-! THE STATE OF BOTH SIDES AND WHAT A CALL DOES TO IT: ((n, P), (saved states, their boards), (length, codes)) -/
abbrev BS : Type := Nat × (Nat → Nat → Int32)
abbrev AS : Type := BS × (Nat × (Nat → BS)) × (Nat × (Nat → Int32))
def bdOK (B : BS) : Prop := B.1 ≤ 8 ∧ bd_ok B.1 B.2 ∧ bd_gd B.1 B.2
def aOK (A : AS) : Prop := bdOK A.1 ∧ A.2.1.1 ≤ 6 ∧ (∀ j, j < A.2.1.1 → bdOK (A.2.1.2 j)) ∧ A.2.2.1 ≤ 60
def svQ (q : Nat) : Nat := if q < 6 then q else 5
def svH (q : Nat) (hs : Nat → BS) (B : BS) : Nat → BS := fun j => if j = svQ q then B else if q < 6 then hs j else hs (j + 1)
/-- the state before is saved, the board is B then -/
def aPut (B : BS) (A : AS) : AS := (B, (svQ A.2.1.1 + 1, svH A.2.1.1 A.2.1.2 A.1), A.2.2)
def ix (x : Int32) : Nat := x.toNatClampNeg
theorem ix_nI {i : Nat} (h : i < 8) : ix (nI i) = i := nI_clamp (by omega)
theorem aOK_put {A : AS} {B : BS} (h : aOK A) (hB : bdOK B) : aOK (aPut B A) := by
  obtain ⟨h1, h2, h3, h4⟩ := h
  refine ⟨hB, ?_, fun j hj => ?_, h4⟩
  · show svQ A.2.1.1 + 1 ≤ 6
    unfold svQ; split <;> omega
  · have hj' : j < svQ A.2.1.1 + 1 := hj
    show bdOK (svH A.2.1.1 A.2.1.2 A.1 j)
    unfold svH
    by_cases hq : j = svQ A.2.1.1
    · rw [if_pos hq]; exact h1
    · rw [if_neg hq]
      unfold svQ at hj' hq
      by_cases h6 : A.2.1.1 < 6
      · rw [if_pos h6] at hj' hq ⊢; exact h3 j (by omega)
      · rw [if_neg h6] at hj' hq ⊢; exact h3 (j + 1) (by omega)
/-- the class's cells tell the saved boards -/
def clH (q : Nat) (hs : Nat → BS) (hf hn : Nat → Int32) : Prop := ∀ j, j < q → hn j = nI (hs j).1 ∧ ∀ i, i < (hs j).1 → ∀ k, k < 6 → hf (48 * j + 8 * k + i) = (hs j).2 i k
def clB (n : Nat) (P : Nat → Nat → Int32) (f : Nat → Int32) : Prop := ∀ i, i < n → ∀ k, k < 6 → f (8 * k + i) = P i k
theorem clH_save {q n : Nat} {P : Nat → Nat → Int32} {hs : Nat → BS} {hf hn f : Nat → Int32} (hq : q ≤ 6) (h8 : n ≤ 8) (hh : ∀ j, j < q → (hs j).1 ≤ 8) (h : clH q hs hf hn) (hb : clB n P f) :
    clH (svQ q + 1) (svH q hs (n, P)) (va_cpy f (if q < 6 then hf else va_cpy hf hf 48 0 240) 0 ((if q < 6 then q else 5) * 48) 48) (upd (if q < 6 then hn else va_cpy hn hn 1 0 5) (if q < 6 then q else 5) (nI n)) := by
  have e : svQ q = if q < 6 then q else 5 := rfl
  rw [← e]
  have hsq : svQ q ≤ 5 := by unfold svQ; split <;> omega
  intro j hj
  unfold svH
  by_cases hjq : j = svQ q
  · rw [if_pos hjq]
    refine ⟨by unfold upd; rw [if_pos hjq], fun i hi k hk => ?_⟩
    have hi' : i < n := hi
    unfold va_cpy
    rw [if_pos (by omega), show 0 + (48 * j + 8 * k + i - svQ q * 48) = 8 * k + i by omega]
    exact hb i hi' k hk
  · rw [if_neg hjq]
    have hne : ∀ i k, i < 8 → k < 6 → ¬ (svQ q * 48 ≤ 48 * j + 8 * k + i ∧ 48 * j + 8 * k + i < svQ q * 48 + 48) := by intro i k hi hk; omega
    by_cases h6 : q < 6
    · have e6 : svQ q = q := by unfold svQ; rw [if_pos h6]
      simp only [if_pos h6]
      obtain ⟨a1, a2⟩ := h j (by omega)
      refine ⟨?_, fun i hi k hk => ?_⟩
      · unfold upd
        rw [if_neg hjq]; exact a1
      · have hi8 := hh j (by omega)
        have := hne i k (by omega) hk
        conv => lhs; unfold va_cpy
        rw [if_neg this]
        exact a2 i hi k hk
    · have e6 : svQ q = 5 := by unfold svQ; rw [if_neg h6]
      simp only [if_neg h6]
      obtain ⟨a1, a2⟩ := h (j + 1) (by omega)
      refine ⟨?_, fun i hi k hk => ?_⟩
      · unfold upd
        rw [if_neg hjq]
        unfold va_cpy
        rw [if_pos (by omega), show 1 + (j - 0) = j + 1 by omega]; exact a1
      · have hi8 := hh (j + 1) (by omega)
        have := hne i k (by omega) hk
        have h2 := a2 i hi k hk
        have e9 : va_cpy hf hf 48 0 240 (48 * j + 8 * k + i) = hf (48 * (j + 1) + 8 * k + i) := by
          unfold va_cpy
          rw [if_pos (by omega), show 48 + (48 * j + 8 * k + i - 0) = 48 * (j + 1) + 8 * k + i by omega]
        show va_cpy f (va_cpy hf hf 48 0 240) 0 (svQ q * 48) 48 (48 * j + 8 * k + i) = _
        generalize hg : va_cpy hf hf 48 0 240 = gg at e9 ⊢
        unfold va_cpy
        rw [if_neg this, e9]
        exact h2
/-- the reference's cells tell the saved boards -/
def mdH (q : Nat) (hs : Nat → BS) (sv : Nat → Int32) : Prop := ∀ j, j < q → mdS (hs j).1 (hs j).2 (fun z => sv (49 * j + z))
theorem mdS_49 {n : Nat} {P : Nat → Nat → Int32} {S T : Nat → Int32} (h8 : n ≤ 8) (h : mdS n P S) (e : ∀ z, z < 49 → T z = S z) : mdS n P T :=
  ⟨by rw [e 0 (by decide)]; exact h.1, fun i hi k hk => by rw [e _ (by omega)]; exact h.2 i hi k hk⟩
theorem mdH_save {q n : Nat} {P : Nat → Nat → Int32} {hs : Nat → BS} {sv S : Nat → Int32} (hq : q ≤ 6) (h8 : n ≤ 8) (hh : ∀ j, j < q → (hs j).1 ≤ 8) (h : mdH q hs sv) (hb : mdS n P S) : mdH (svQ q + 1) (svH q hs (n, P)) (svF q sv S) := by
  have e : svQ q = if q < 6 then q else 5 := rfl
  intro j hj
  unfold svH
  by_cases hjq : j = svQ q
  · rw [if_pos hjq]
    refine mdS_49 h8 hb (fun z hz => ?_)
    show svF q sv S (49 * j + z) = S z
    unfold svF
    rw [← e, if_pos (by omega), show 49 * j + z - 49 * svQ q = z by omega]
  · rw [if_neg hjq]
    by_cases h6 : q < 6
    · have e6 : svQ q = q := by unfold svQ; rw [if_pos h6]
      rw [if_pos h6]
      refine mdS_49 (hh j (by omega)) (h j (by omega)) (fun z hz => ?_)
      show svF q sv S (49 * j + z) = sv (49 * j + z)
      unfold svF
      rw [← e, if_neg (by omega), if_pos h6]
    · have e6 : svQ q = 5 := by unfold svQ; rw [if_neg h6]
      rw [if_neg h6]
      refine mdS_49 (hh (j + 1) (by omega)) (h (j + 1) (by omega)) (fun z hz => ?_)
      show svF q sv S (49 * j + z) = sv (49 * (j + 1) + z)
      unfold svF
      rw [← e, if_neg (by omega), if_neg h6, if_pos (by omega), show 49 * j + z + 49 = 49 * (j + 1) + z by omega]
/-! what the calls do: (which exception, the answer, the state then) -/
abbrev RS : Type := Int32 × Int32 × AS
def spAdd (A : AS) (x y wd hg wt : Int32) : RS := if mRef A.1.1 A.1.2 x y wd hg wt = 0 then (0, nI A.1.1, aPut (A.1.1 + 1, mIns A.1.1 A.1.2 x y wd hg wt) A) else (mRef A.1.1 A.1.2 x y wd hg wt, 0, A)
def spRemove (A : AS) (x : Int32) : RS := if gHas A.1.1 x = true then (0, mOM (A.1.1 - 1) (gOut A.1.2 (ix x)) (-1) - mOM A.1.1 A.1.2 x, aPut (A.1.1 - 1, gOut A.1.2 (ix x)) A) else (1, 0, A)
def spWeigh (A : AS) (x y : Int32) : RS := if gHas A.1.1 x = true then (if mIn y 1 99 = true then (0, A.1.2 (ix x) 4, aPut (A.1.1, gSet A.1.2 (ix x) 4 y) A) else (2, 0, A)) else (1, 0, A)
def spResize (A : AS) (x y z : Int32) : RS := if gHas A.1.1 x = true then (if (mIn y 1 20 && mIn z 1 9) = true then (0, mOnes (gMk A.1.1 (gSet (gSet (gSet A.1.2 (ix x) 2 y) (ix x) 3 z) (ix x) 5 (-1)) (ix x)), aPut (A.1.1, gSet (gSet (gSet A.1.2 (ix x) 2 y) (ix x) 3 z) (ix x) 5 (-1)) A) else (2, 0, A)) else (1, 0, A)
def spPlace (A : AS) (x y : Int32) : RS := if gHas A.1.1 x = true then (if mIn y 0 3 = true then (if (gOp A.1.1 A.1.2 (ix x) y && !gCl A.1.1 A.1.2 (ix x) y) = true then (0, A.1.2 (ix x) 5, aPut (A.1.1, gSet A.1.2 (ix x) 5 y) A) else (3, 0, A)) else (2, 0, A)) else (1, 0, A)
def spDrop (A : AS) (x : Int32) : RS := if gHas A.1.1 x = true then (0, A.1.2 (ix x) 5, aPut (A.1.1, gSet A.1.2 (ix x) 5 (-1)) A) else (1, 0, A)
def spSolve (A : AS) : RS := (0, hvW A.1.1 A.1.2 (-1), aPut (A.1.1, mLy A.1.2 (mHv A.1.1 A.1.2 (-1) (fun _ => 0)).2) A)
def spPush (A : AS) (x : Int32) : RS := if gHas A.1.1 x = true then (if mMr A.1.1 A.1.2 (ix x) (fun _ => 0) = -1 then (2, 0, A) else (0, mMr A.1.1 A.1.2 (ix x) (fun _ => 0), aPut (A.1.1, mLy A.1.2 (mRm A.1.1 A.1.2 (ix x) (fun _ => 0)).2) A)) else (1, 0, A)
def spMirror (A : AS) : RS := (0, gN A.1.1 (gFlp A.1.2), aPut (A.1.1, gFlp A.1.2) A)
def spAppend (A : AS) (x : Int32) : RS := if mIn x 33 126 = true then (if A.2.2.1 = 60 then (2, 0, A) else (0, nI (A.2.2.1 + 1), (A.1, A.2.1, (A.2.2.1 + 1, upd A.2.2.2 A.2.2.1 x)))) else (1, 0, A)
def spClear (A : AS) : RS := (0, nI A.2.2.1, (A.1, A.2.1, (0, A.2.2.2)))
def spFirst (A : AS) (td : Nat → Int32) : RS := (0, nI (tyR A.2.2.2 A.2.2.1 0 (tyIn td)).1, A)
def spRead (A : AS) (td : Nat → Int32) : RS := if ((tyR A.2.2.2 A.2.2.1 0 (tyIn td)).2.1 && tyEnd (tyR A.2.2.2 A.2.2.1 0 (tyIn td)).2.2) = true then
    (0, nI (mIq (tyR A.2.2.2 A.2.2.1 0 (tyIn td)).2.2.2.2.2 ((tyR A.2.2.2 A.2.2.1 0 (tyIn td)).2.2.1 + 1) 0 A.1.1 A.1.2).1, ((mIq (tyR A.2.2.2 A.2.2.1 0 (tyIn td)).2.2.2.2.2 ((tyR A.2.2.2 A.2.2.1 0 (tyIn td)).2.2.1 + 1) 0 A.1.1 A.1.2).2, (svQ A.2.1.1 + 1, svH A.2.1.1 A.2.1.2 A.1), (0, A.2.2.2))) else (1, 0, A)
def spUndo (A : AS) : RS := if A.2.1.1 = 0 then (1, 0, A) else (0, nI (A.2.1.1 - 1), (A.2.1.2 (A.2.1.1 - 1), (A.2.1.1 - 1, A.2.1.2), A.2.2))
def spPoint (A : AS) (x y : Int32) : RS := if gHas A.1.1 x = true then (if mIn y 0 8 = true then (0, gPr A.1.1 A.1.2 (ix x) (ix y), A) else (2, 0, A)) else (1, 0, A)
def spClash (A : AS) (x y u z : Int32) : RS := if (gHas A.1.1 x && gHas A.1.1 u) = true then (if (decide (¬ x = u) && (mIn y 0 3 && mIn z 0 3)) = true then (0, gSh A.1.2 (ix x) y (ix u) z, A) else (2, 0, A)) else (1, 0, A)
def spAt (A : AS) (x y : Int32) : RS := if (mIn x 0 59 && mIn y 0 39) = true then (0, mAt A.1.1 A.1.2 x y, A) else (1, 0, A)
def spCount (A : AS) (x : Int32) : RS := if mIn x 0 8 = true then (0, mCnt A.1.1 A.1.2 (nI A.2.1.1) (ix x), A) else (1, 0, A)
def spBest (A : AS) (x : Int32) : RS := if gHas A.1.1 x = true then (0, lay ((mHv A.1.1 A.1.2 (-1) (fun _ => 0)).2 (ix x)), A) else (1, 0, A)
def spBestW (A : AS) (x : Int32) : RS := if x = -1 ∨ gHas A.1.1 x = true then (0, hvW A.1.1 A.1.2 x, A) else (1, 0, A)
def spIfP (A : AS) (x : Int32) : RS := if gHas A.1.1 x = true then (0, mMr A.1.1 A.1.2 (ix x) (fun _ => 0), A) else (1, 0, A)
def spFull (A : AS) : RS := (0, (mFu A.1.1 A.1.2 (fun _ => 0)).1, A)
def spDear (A : AS) : RS := (0, mDear A.1.1 A.1.2, A)
/-! .. keeps it well -/
theorem has_ix {n : Nat} {x : Int32} (h8 : n ≤ 8) (h : gHas n x = true) : ix x < n ∧ x = nI (ix x) := by
  obtain ⟨i, hi, rfl⟩ := (gHas_iff h8).mp h
  rw [ix_nI (by omega)]
  exact ⟨hi, rfl⟩
theorem mRef_8 {n : Nat} {P : Nat → Nat → Int32} {x y wd hg wt : Int32} (h8 : n ≤ 8) (h : mRef n P x y wd hg wt = 0) : n + 1 ≤ 8 := by
  have := (mRef_0 h).2
  omega
theorem bdOK_ins {B : BS} {x y wd hg wt : Int32} (h : bdOK B) (hr : mRef B.1 B.2 x y wd hg wt = 0) : bdOK (B.1 + 1, mIns B.1 B.2 x y wd hg wt) :=
  ⟨mRef_8 h.1 hr, bd_ok_ins h.2.1 hr, bd_gd_ins h.2.1 h.2.2⟩
theorem ok_add {A : AS} {x y wd hg wt : Int32} (h : aOK A) : aOK (spAdd A x y wd hg wt).2.2 := by
  unfold spAdd
  split
  · rename_i q; exact aOK_put h (bdOK_ins h.1 q)
  · exact h
theorem ok_remove {A : AS} {x : Int32} (h : aOK A) : aOK (spRemove A x).2.2 := by
  unfold spRemove
  split
  · rename_i q
    obtain ⟨h8, hb, hg⟩ := h.1
    obtain ⟨i1, -⟩ := has_ix h8 q
    exact aOK_put h ⟨by show A.1.1 - 1 ≤ 8; omega, bd_ok_out (n := A.1.1) (mm := A.1.1 - 1) (by omega) (by omega) hb, bd_gd_out (n := A.1.1) (mm := A.1.1 - 1) (by omega) (by omega) hg⟩
  · exact h
theorem ok_weigh {A : AS} {x y : Int32} (h : aOK A) : aOK (spWeigh A x y).2.2 := by
  unfold spWeigh
  split
  · split
    · rename_i q; exact aOK_put h ⟨h.1.1, bd_ok_set4 q h.1.2.1, bd_gd_weigh h.1.2.2⟩
    · exact h
  · exact h
theorem ok_resize {A : AS} {x y z : Int32} (h : aOK A) : aOK (spResize A x y z).2.2 := by
  unfold spResize
  split
  · rename_i q0
    split
    · rename_i q
      rw [Bool.and_eq_true] at q
      exact aOK_put h ⟨h.1.1, bd_ok_resize (has_ix h.1.1 q0).1 h.1.2.1 q.1 q.2, bd_gd_resize h.1.2.2⟩
    · exact h
  · exact h
theorem ok_place {A : AS} {x y : Int32} (h : aOK A) : aOK (spPlace A x y).2.2 := by
  unfold spPlace
  split
  · rename_i q0
    split
    · rename_i q1
      split
      · rename_i q
        exact aOK_put h ⟨h.1.1, bd_ok_set5 (Or.inr (ok4_in q1)) h.1.2.1, bd_gd_place h.1.2.1 (has_ix h.1.1 q0).1 q h.1.2.2⟩
      · exact h
    · exact h
  · exact h
theorem ok_drop {A : AS} {x : Int32} (h : aOK A) : aOK (spDrop A x).2.2 := by
  unfold spDrop
  split
  · exact aOK_put h ⟨h.1.1, bd_ok_set5 (Or.inl rfl) h.1.2.1, bd_gd_drop h.1.2.2⟩
  · exact h
theorem ok_solve {A : AS} (h : aOK A) : aOK (spSolve A).2.2 := by
  obtain ⟨u, h1, h2⟩ := mHv_plan h.1.1 h.1.2.1 (-1)
  exact aOK_put h ⟨h.1.1, ly_ok h.1.2.1 h1 (h2 _), ly_gd h.1.2.1 h1 (h2 _)⟩
theorem ok_push {A : AS} {x : Int32} (h : aOK A) : aOK (spPush A x).2.2 := by
  unfold spPush
  split
  · split
    · exact h
    · rename_i q
      obtain ⟨u, h1, h2⟩ := mRm_plan h.1.1 h.1.2.1 q
      exact aOK_put h ⟨h.1.1, ly_ok h.1.2.1 h1 (h2 _), ly_gd h.1.2.1 h1 (h2 _)⟩
  · exact h
theorem ok_mirror {A : AS} (h : aOK A) : aOK (spMirror A).2.2 := aOK_put h ⟨h.1.1, bd_ok_flp h.1.2.1, bd_gd_flp h.1.2.1 h.1.2.2⟩
theorem ok_append {A : AS} {x : Int32} (h : aOK A) : aOK (spAppend A x).2.2 := by
  unfold spAppend
  split
  · split
    · exact h
    · rename_i q; exact ⟨h.1, h.2.1, h.2.2.1, by show A.2.2.1 + 1 ≤ 60; have := h.2.2.2; omega⟩
  · exact h
theorem ok_clear {A : AS} (h : aOK A) : aOK (spClear A).2.2 := ⟨h.1, h.2.1, h.2.2.1, Nat.zero_le _⟩
theorem bdOK_mIp {rd : Nat → Int32} : ∀ (k i n : Nat) (P : Nat → Nat → Int32), bdOK (n, P) → bdOK (mIp rd k i n P).2
  | 0, i, n, P, h => h
  | k + 1, i, n, P, h => by
    rw [mIp]
    split
    · rename_i q; exact bdOK_mIp k (i + 1) _ _ (bdOK_ins h q)
    · exact h
theorem ok_read {A : AS} {td : Nat → Int32} (h : aOK A) : aOK (spRead A td).2.2 := by
  unfold spRead
  split
  · have h1 := aOK_put h (bdOK_mIp (rd := (tyR A.2.2.2 A.2.2.1 0 (tyIn td)).2.2.2.2.2) ((tyR A.2.2.2 A.2.2.1 0 (tyIn td)).2.2.1 + 1 - 0) 0 A.1.1 A.1.2 h.1)
    exact ⟨h1.1, h1.2.1, h1.2.2.1, Nat.zero_le _⟩
  · exact h
theorem ok_undo {A : AS} (h : aOK A) : aOK (spUndo A).2.2 := by
  unfold spUndo
  split
  · exact h
  · have h6 := h.2.1
    exact ⟨h.2.2.1 _ (by omega), by show A.2.1.1 - 1 ≤ 6; omega, fun j hj => h.2.2.1 j (by have : j < A.2.1.1 - 1 := hj; omega), h.2.2.2⟩
theorem ok_point {A : AS} {x y : Int32} (h : aOK A) : aOK (spPoint A x y).2.2 := by unfold spPoint; repeat' split
                                                                                    all_goals exact h
theorem ok_clash {A : AS} {x y u z : Int32} (h : aOK A) : aOK (spClash A x y u z).2.2 := by unfold spClash; repeat' split
                                                                                            all_goals exact h
theorem ok_at {A : AS} {x y : Int32} (h : aOK A) : aOK (spAt A x y).2.2 := by unfold spAt; split <;> exact h
theorem ok_count {A : AS} {x : Int32} (h : aOK A) : aOK (spCount A x).2.2 := by unfold spCount; split <;> exact h
theorem ok_best {A : AS} {x : Int32} (h : aOK A) : aOK (spBest A x).2.2 := by unfold spBest; split <;> exact h
theorem ok_bestW {A : AS} {x : Int32} (h : aOK A) : aOK (spBestW A x).2.2 := by unfold spBestW; split <;> exact h
theorem ok_ifP {A : AS} {x : Int32} (h : aOK A) : aOK (spIfP A x).2.2 := by unfold spIfP; split <;> exact h
/-! the told points are in range -/
def tdOK (t : Nat → Int32) (i : Nat) : Prop := ∀ k, k < 5 → tyLeast k ≤ t (5 * i + k) ∧ t (5 * i + k) ≤ tyMost k
/-- what the scan has written so far -/
def tyI (s : TyS) : Prop := (∀ i, i < s.1 → tdOK s.2.2.2 i) ∧ (∀ k, k < s.2.1 → tyLeast k ≤ s.2.2.2 (5 * s.1 + k) ∧ s.2.2.2 (5 * s.1 + k) ≤ tyMost k) ∧ (¬ s.2.2.1 = -1 → tyLeast s.2.1 ≤ s.2.2.2 (5 * s.1 + s.2.1) ∧ s.2.2.2 (5 * s.1 + s.2.1) ≤ tyMost s.2.1) ∧ (s.2.1 < 4 → s.2.2.2 (5 * s.1 + 4) = 1) ∧ s.2.1 < 5
theorem ty1 : tyLeast 4 ≤ (1 : Int32) ∧ (1 : Int32) ≤ tyMost 4 := by decide
theorem tyI_all {s : TyS} (h : tyI s) (he : tyEnd s = true) : ∀ i, i ≤ s.1 → tdOK s.2.2.2 i := by
  obtain ⟨h1, h2, h3, h4, h5⟩ := h
  unfold tyEnd at he
  rw [decide_eq_true_iff] at he
  intro i hi
  by_cases hir : i = s.1
  · subst hir
    intro k hk
    by_cases k1 : k < s.2.1
    · exact h2 k k1
    · by_cases k2 : k = s.2.1
      · rw [k2]; exact h3 he.1
      · have k4 : k = 4 := by omega
        rw [k4, h4 (by omega)]
        exact ty1
  · exact h1 i (by omega)
theorem tyI_tk {c : Int32} {s : TyS} (h : tyI s) : tyI (tkS c s).2 := by
  obtain ⟨r, pa, vl, t⟩ := s
  obtain ⟨h1, h2, h3, h4, h5⟩ := h
  have h0 : tyI (r, pa, vl, t) := ⟨h1, h2, h3, h4, h5⟩
  dsimp only at h1 h2 h3 h4 h5
  by_cases hd : 48 ≤ c ∧ c ≤ 57
  · rw [tkS_dg hd]
    unfold tyDg
    dsimp only
    split
    · exact h0
    · split
      · exact h0
      · rename_i q
        have q1 : tyLeast pa ≤ tyLg (c - 48) vl := Int32.not_lt.mp (fun z => q (Or.inl z))
        have q2 : tyLg (c - 48) vl ≤ tyMost pa := Int32.not_lt.mp (fun z => q (Or.inr z))
        refine ⟨fun i hi k hk => ?_, fun k hk => ?_, fun _ => ?_, fun h6 => ?_, h5⟩
        · show _ ≤ upd t (r * 5 + pa) _ (5 * i + k) ∧ upd t (r * 5 + pa) _ (5 * i + k) ≤ _
          have hi' : i < r := hi
          unfold upd
          rw [if_neg (by omega)]
          exact h1 i hi' k hk
        · show _ ≤ upd t (r * 5 + pa) _ (5 * r + k) ∧ upd t (r * 5 + pa) _ (5 * r + k) ≤ _
          have hk' : k < pa := hk
          unfold upd
          rw [if_neg (by omega)]
          exact h2 k hk'
        · show tyLeast pa ≤ upd t (r * 5 + pa) _ (5 * r + pa) ∧ upd t (r * 5 + pa) _ (5 * r + pa) ≤ _
          unfold upd
          rw [if_pos (by omega)]
          exact ⟨q1, q2⟩
        · show upd t (r * 5 + pa) _ (5 * r + 4) = 1
          have h6' : pa < 4 := h6
          unfold upd
          rw [if_neg (by omega)]
          exact h4 h6'
  · by_cases hm : tyNv vl pa c = -1
    · rw [tkS_f hd hm]; exact h0
    · have hv : ¬ vl = -1 := by
        intro z
        unfold tyNv at hm
        rw [if_pos z] at hm
        exact hm rfl
      by_cases hz : tyNv vl pa c = 0
      · rw [tkS_b hd hm hz]
        unfold tyBg
        dsimp only
        split
        · have hp3 : pa = 3 ∨ pa = 4 := by
            unfold tyNv at hz
            rw [if_neg hv] at hz
            unfold tyNx at hz
            rcases (show pa = 0 ∨ pa = 1 ∨ pa = 2 ∨ pa = 3 ∨ pa = 4 by omega) with rfl | rfl | rfl | rfl | rfl
            · simp at hz; split at hz <;> exact absurd hz (by decide)
            · simp at hz; split at hz <;> exact absurd hz (by decide)
            · simp at hz; split at hz <;> exact absurd hz (by decide)
            · exact Or.inl rfl
            · exact Or.inr rfl
          have hall := tyI_all h0 (by unfold tyEnd; rw [decide_eq_true_iff]; exact ⟨hv, hp3⟩)
          refine ⟨fun i hi k hk => ?_, fun k hk => absurd hk (Nat.not_lt_zero k), fun q => absurd rfl q, fun _ => ?_, by show 0 < 5; decide⟩
          · show _ ≤ upd t ((r + 1) * 5 + 4) 1 (5 * i + k) ∧ upd t ((r + 1) * 5 + 4) 1 (5 * i + k) ≤ _
            have hi' : i < r + 1 := hi
            unfold upd
            rw [if_neg (by omega)]
            exact hall i (by show i ≤ r; omega) k hk
          · show upd t ((r + 1) * 5 + 4) 1 (5 * (r + 1) + 4) = 1
            unfold upd
            rw [if_pos (by omega)]
        · exact h0
      · obtain ⟨pq, hpq, epq⟩ := tyNv_nat hm
        rw [tkS_n hd hm hz hpq epq]
        have hpp : pq = pa + 1 ∧ pa < 4 := by
          unfold tyNv at epq hz hm
          rw [if_neg hv] at epq hz hm
          unfold tyNx at epq hz hm
          rcases (show pa = 0 ∨ pa = 1 ∨ pa = 2 ∨ pa = 3 ∨ pa = 4 by omega) with rfl | rfl | rfl | rfl | rfl
          · simp at epq hm; rw [if_pos hm] at epq; exact ⟨((nI_eq (a := 1) (by omega) (by omega)).mp epq).symm, by omega⟩
          · simp at epq hm; rw [if_pos hm] at epq; exact ⟨((nI_eq (a := 2) (by omega) (by omega)).mp epq).symm, by omega⟩
          · simp at epq hm; rw [if_pos hm] at epq; exact ⟨((nI_eq (a := 3) (by omega) (by omega)).mp epq).symm, by omega⟩
          · by_cases c42 : c = 42
            · simp [c42] at epq; exact ⟨((nI_eq (a := 4) (by omega) (by omega)).mp epq).symm, by omega⟩
            · by_cases c59 : c = 59
              · exact absurd (by simp [c59]) hz
              · exact absurd (by simp [c42, c59]) hm
          · by_cases c59 : c = 59
            · exact absurd (by simp [c59]) hz
            · exact absurd (by simp [c59]) hm
        refine ⟨h1, fun k hk => ?_, fun q => absurd rfl q, fun h6 => ?_, hpq⟩
        · show tyLeast k ≤ t (5 * r + k) ∧ t (5 * r + k) ≤ tyMost k
          have hk' : k < pq := hk
          by_cases hkp : k = pa
          · rw [hkp]; exact h3 hv
          · exact h2 k (by omega)
        · show t (5 * r + 4) = 1
          exact h4 hpp.2
theorem tyI_run {bf : Nat → Int32} : ∀ (k i : Nat) (s : TyS), tyI s → tyI (tyRun bf k i s).2.2
  | 0, i, s, h => h
  | k + 1, i, s, h => by
    rw [tyRun]
    split
    · exact tyI_run k (i + 1) _ (tyI_tk h)
    · exact tyI_tk h
theorem tyI_in {td : Nat → Int32} : tyI (tyIn td) :=
  ⟨fun i hi => absurd hi (Nat.not_lt_zero i), fun k hk => absurd hk (Nat.not_lt_zero k), fun q => absurd rfl q, fun _ => by show upd td 4 1 4 = 1; unfold upd; rw [if_pos rfl], by show 0 < 5; decide⟩
theorem told_rng {bf : Nat → Int32} {b : Nat} {td : Nat → Int32} (he : tyEnd (tyR bf b 0 (tyIn td)).2.2 = true) : ∀ i, i ≤ (tyR bf b 0 (tyIn td)).2.2.1 → tdOK (tyR bf b 0 (tyIn td)).2.2.2.2.2 i :=
  tyI_all (tyI_run (b - 0) 0 (tyIn td) tyI_in) he
/-- a told point is refused where there is no room for it alone -/
theorem told_ref {n : Nat} {P : Nat → Nat → Int32} {t : Nat → Int32} {i : Nat} (h8 : n ≤ 8) (h : tdOK t i) : mRef n P (t (5 * i)) (t (5 * i + 1)) (t (5 * i + 2)) (t (5 * i + 3)) (t (5 * i + 4)) = if gTk n P (t (5 * i)) (t (5 * i + 1)) = true then 0 else 2 := by
  have m : ∀ k, k < 5 → mIn (t (5 * i + k)) (tyLeast k) (tyMost k) = true := fun k hk => by unfold mIn; rw [decide_eq_true_iff]; exact h k hk
  have m0 : mIn (t (5 * i)) 0 59 = true := m 0 (by decide)
  have m1 : mIn (t (5 * i + 1)) 0 39 = true := m 1 (by decide)
  have m2 : mIn (t (5 * i + 2)) 1 20 = true := m 2 (by decide)
  have m3 : mIn (t (5 * i + 3)) 1 9 = true := m 3 (by decide)
  have m4 : mIn (t (5 * i + 4)) 1 99 = true := m 4 (by decide)
  unfold mRef gTk
  rw [m0, m1, m2, m3, m4]
  simp only [Bool.and_self, if_true, Bool.and_eq_true, decide_eq_true_iff]
  by_cases c1 : n = 8 ∨ ¬ gPt n P (t (5 * i)) (t (5 * i + 1)) = -1
  · rw [if_pos c1, if_neg]
    rintro ⟨q1, q2⟩
    rcases c1 with c1 | c1
    · omega
    · exact c1 q2
  · rw [if_neg c1, if_pos]
    refine ⟨?_, ?_⟩
    · have : ¬ n = 8 := fun z => c1 (Or.inl z)
      omega
    · exact Classical.not_not.mp (fun z => c1 (Or.inr z))
/-- the same points are put in -/
theorem mIp_congr {rd t : Nat → Int32} : ∀ (k i n : Nat) (P : Nat → Nat → Int32), (∀ j, j < 5 * (i + k) → rd j = t j) → mIp rd k i n P = mIp t k i n P
  | 0, i, n, P, h => rfl
  | k + 1, i, n, P, h => by
    rw [mIp, mIp, h (5 * i) (by omega), h (5 * i + 1) (by omega), h (5 * i + 2) (by omega), h (5 * i + 3) (by omega), h (5 * i + 4) (by omega)]
    split
    · exact mIp_congr k (i + 1) _ _ (fun j hj => h j (by omega))
    · rfl
theorem mIq_congr {rd t : Nat → Int32} {m n : Nat} {P : Nat → Nat → Int32} (h : ∀ j, j < 5 * m → rd j = t j) : mIq rd m 0 n P = mIq t m 0 n P := mIp_congr (m - 0) 0 n P (fun j hj => h j (by omega))
/-! the dearest point -/
theorem fB_val {w : (Nat → Nat) → Int} : ∀ (L : List (Nat → Nat)) (z : Int × Option (Nat → Nat)), (∀ u, z.2 = some u → z.1 = w u) → ∀ u, (L.foldl (fB w) z).2 = some u → (L.foldl (fB w) z).1 = w u
  | [], z, h => h
  | t :: L, z, h => by
    rw [List.foldl_cons]
    refine fB_val L _ (fun u hu => ?_)
    unfold fB at hu ⊢
    split at hu
    · rename_i q
      rw [if_pos q]
      cases hu
      rfl
    · rename_i q
      rw [if_neg q]
      exact h u hu
theorem hvW_rng {n : Nat} {P : Nat → Nat → Int32} (h8 : n ≤ 8) (hbk : bd_ok n P) (wo : Int32) : 0 ≤ (hvW n P wo).toInt ∧ (hvW n P wo).toInt ≤ 792 := by
  have hAe : ∀ i, i < n → ∀ c, c < 5 → (fun j c => mBt (alH n P wo j) c) i c = mBt (alH n P wo i) c := fun _ _ _ _ => rfl
  have h4 : ∀ j, j < n → (fun j c => mBt (alH n P wo j) c) j 4 = true := by
    intro j hj
    show mBt (alH n P wo j) 4 = true
    rw [bt_mBt _ (by omega)]
    unfold alH
    by_cases hw : nI j = wo
    · rw [if_pos hw, bt16 4 (by omega)]; rfl
    · rw [if_neg hw, b_or, bt16 4 (by omega)]; simp
  obtain ⟨u0, hu0⟩ := dropped_mem (n := n) (P := P) (A := fun j c => mBt (alH n P wo j) c) h4 n 0 (fun _ => 0) (by omega)
  obtain ⟨u, hu⟩ := fB_nn (w := scS (gW P) n) hu0 (scW_rng hbk u0 n (Nat.le_refl n)).1 (z := (-1, none)) rfl
  have hv := fB_val (w := scS (gW P) n) _ (-1, none) (fun u h => absurd h (by simp)) u hu
  have r2 := srM0_fold (p0 := fun _ => 0) h8 hbk hAe n 0 (by omega) (fun _ => 0) (-1, none) (-1, fun _ => 0) (fun j hj => absurd hj (Nat.not_lt_zero j)) (Int.le_refl _) ⟨m1_ti, fun _ _ => rfl⟩
  obtain ⟨b1, -⟩ := r2
  have e : (hvW n P wo).toInt = scS (gW P) n u := b1.trans hv
  have hr := scW_rng hbk u n (Nat.le_refl n)
  rw [e]
  omega
/-- the class's way of finding it -/
def cDrF (n : Nat) (P : Nat → Nat → Int32) (i : Nat) (z : Int32 × Int32) : Int32 × Int32 :=
  if z.1 = -1 ∨ z.2 < P i 4 + hvW n P (nI i) then (nI i, P i 4 + hvW n P (nI i)) else z
theorem dear_same {n : Nat} {P : Nat → Nat → Int32} (h8 : n ≤ 8) (hbk : bd_ok n P) : ∀ (k i : Nat) (z : Int32 × Int32), i + k = n → (z.1 = -1 → z.2 = 0) → gP n (cDrF n P) i z = gP n (mDrF n P) i z
  | 0, i, z, hk, _ => by rw [gP_end (by omega), gP_end (by omega)]
  | k + 1, i, z, hk, hz => by
    have hi : i < n := by omega
    rw [gP_step hi, gP_step hi]
    have hpos : (0 : Int32) < P i 4 + hvW n P (nI i) := by
      obtain ⟨-, -, -, -, w, -⟩ := hbk i hi
      have hr := hvW_rng h8 hbk (nI i)
      rw [Int32.lt_iff_toInt_lt, ti_0, ti_add (by omega) (by omega)]
      omega
    have e : cDrF n P i z = mDrF n P i z := by
      unfold cDrF mDrF
      by_cases h1 : z.1 = -1
      · rw [if_pos (Or.inl h1), if_pos (by rw [hz h1]; exact hpos)]
      · by_cases h2 : z.2 < P i 4 + hvW n P (nI i)
        · rw [if_pos (Or.inr h2), if_pos h2]
        · rw [if_neg (fun q => q.elim h1 h2), if_neg h2]
    rw [e]
    refine dear_same h8 hbk k (i + 1) _ (by omega) (fun q => ?_)
    unfold mDrF at q ⊢
    by_cases h2 : z.2 < P i 4 + hvW n P (nI i)
    · rw [if_pos h2] at q
      exact absurd q (nI_m1 (by omega))
    · rw [if_neg h2] at q ⊢
      exact hz q
/-! the hash -/
def gHx (h v : Int64) : Int64 := 31 * h + v
def gLf (f : Nat → Int64 → Int64) : Nat → Nat → Int64 → Int64
  | 0, _, a => a
  | k + 1, i, a => gLf f k (i + 1) (f i a)
def gLg (n : Nat) (f : Nat → Int64 → Int64) (i : Nat) (a : Int64) : Int64 := gLf f (n - i) i a
theorem gLg_step {n i : Nat} {f : Nat → Int64 → Int64} {a : Int64} (h : i < n) : gLg n f i a = gLg n f (i + 1) (f i a) := by
  unfold gLg
  rw [show n - i = (n - (i + 1)) + 1 by omega]
  rfl
theorem gLg_end {n i : Nat} {f : Nat → Int64 → Int64} {a : Int64} (h : n ≤ i) : gLg n f i a = a := by
  unfold gLg
  rw [show n - i = 0 by omega]
  rfl
def hxC (n : Nat) (P : Nat → Nat → Int32) (q : Int32) (k : Nat) (h : Int64) : Int64 := gHx h (mCnt n P q k).toInt64
def hxR (n : Nat) (P : Nat → Nat → Int32) (i k : Nat) (h : Int64) : Int64 := gHx h (gPr n P i k).toInt64
def hxP (n : Nat) (P : Nat → Nat → Int32) (i : Nat) (h : Int64) : Int64 := gHx (gHx (gHx (gLg 9 (hxR n P i) 0 h) (lay ((mHv n P (-1) (fun _ => 0)).2 i)).toInt64) (hvW n P (nI i)).toInt64) (mMr n P i (fun _ => 0)).toInt64
def hxQ (P : Nat → Nat → Int32) (i j : Nat) (h : Int64) : Int64 := gHx (gHx h (gSh P i 0 j 0).toInt64) (gSh P i 0 j 1).toInt64
def hxO (n : Nat) (P : Nat → Nat → Int32) (i : Nat) (h : Int64) : Int64 := gLg n (hxQ P i) (i + 1) h
def hxB (bf : Nat → Int32) (j : Nat) (h : Int64) : Int64 := gHx h (bf j).toInt64
def hxS (n : Nat) (P : Nat → Nat → Int32) (h : Int64) : Int64 := gHx (gHx (gHx (gHx h (hvW n P (-1)).toInt64) (mFu n P (fun _ => 0)).1.toInt64) (mDear n P).toInt64) (gShare n P).toInt64
def gDig (A : AS) : Int64 := gLg A.2.2.1 (hxB A.2.2.2) 0 (gHx (hxS A.1.1 A.1.2 (gLg A.1.1 (hxO A.1.1 A.1.2) 0 (gLg A.1.1 (hxP A.1.1 A.1.2) 0 (gLg 9 (hxC A.1.1 A.1.2 (nI A.2.1.1)) 0 2833)))) (nI A.2.2.1).toInt64)
