/-! READING, as a whole -/
theorem mNl_ge {bf : Nat → Int32} {b : Nat} {most : Int32} : ∀ (k : Nat) (its : Int32) (a : Nat), a ≤ (mNl bf b most k its a).2
  | 0, its, a => Nat.le_refl _
  | k + 1, its, a => by
    rw [mNl]
    split
    · exact Nat.le_trans (Nat.le_succ a) (mNl_ge k _ _)
    · exact Nat.le_refl _
theorem psN_ge {bf : Nat → Int32} {b k : Nat} {least most : Int32} {s : PS} : s.2.1 ≤ (psN bf b k least most s).2.1 := by
  show s.2.1 ≤ (nmR bf b s.1 least most s.2.1).2
  unfold nmR mNm
  split
  · exact Nat.le_trans (Nat.le_succ _) (mNl_ge _ _ _)
  · exact Nat.le_refl _
theorem psT_ge {bf : Nat → Int32} {b : Nat} {c : Int32} {s : PS} : s.2.1 ≤ (psT bf b c s).2.1 := by
  unfold psT
  dsimp only
  split <;> omega
theorem psL_ge {bf : Nat → Int32} {b k : Nat} {s : PS} : s.2.1 ≤ (psL bf b k s).2.1 := by
  unfold psL
  split
  · exact Nat.le_trans (Nat.le_succ _) (psN_ge (s := (s.1, s.2.1 + 1, s.2.2)))
  · exact Nat.le_refl _
theorem psP_ge {bf : Nat → Int32} {b r : Nat} {s : PS} : s.2.1 ≤ (psP bf b r s).2.1 :=
  Nat.le_trans psN_ge (Nat.le_trans psT_ge (Nat.le_trans psN_ge (Nat.le_trans psT_ge (Nat.le_trans psN_ge (Nat.le_trans psT_ge (Nat.le_trans psN_ge psL_ge))))))
theorem psP_le {bf : Nat → Int32} {b r : Nat} {s : PS} (h : s.2.1 ≤ b) : (psP bf b r s).2.1 ≤ b :=
  psL_le (psN_le (Or.inr rfl) (psT_le (by decide) (psN_le (Or.inr rfl) (psT_le (by decide) (psN_le (Or.inl rfl) (psT_le (by decide) (psN_le (Or.inl rfl) h)))))))
def psInv (bf : Nat → Int32) (b : Nat) (T : Nat × Bool × TyS) (rm : Nat) (s : PS) : Prop := (∃ r, rm = r + 1 ∧ psFin bf b T r s) ∨ psBad T s
theorem psInv_in {bf : Nat → Int32} {b : Nat} {td rd : Nat → Int32} : psInv bf b (tyR bf b 0 (tyIn td)) (if (psP bf b 0 (true, 0, rd)).1 = true then 0 + 1 else 0) (psP bf b 0 (true, 0, rd)) := by
  rcases psP_ok (psGN_in (bf := bf) (b := b) (td := td) (rd := rd)) with h | h
  · exact Or.inl ⟨0, by rw [if_pos h.1], h⟩
  · exact Or.inr h
theorem psInv_no {bf : Nat → Int32} {b rm : Nat} {T : Nat × Bool × TyS} {w : Bool} {a : Nat} {rd : Nat → Int32} (hb : b ≤ 60) (hw : w = true) (hab : a < b) (h : psInv bf b T rm (w, a, rd)) (hn : tkB bf b w 59 a = false) : psInv bf b T rm (psT bf b 59 (w, a, rd)) := by
  rcases h with ⟨r, e, h⟩ | h
  · rcases psS_ok hb hab h with q | q
    · have := q.1
      rw [show (psT bf b 59 (w, a, rd)).1 = tkB bf b w 59 a from rfl, hn] at this
      exact absurd this (by decide)
    · exact Or.inr q
  · exact Or.inr (psT_bad h)
theorem psInv_rm {bf : Nat → Int32} {b rm : Nat} {T : Nat × Bool × TyS} {w : Bool} {a : Nat} {rd : Nat → Int32} (hb : b ≤ 60) (hw : w = true) (hab : a < b) (h : psInv bf b T rm (w, a, rd)) : rm ≤ 7 := by
  rcases h with ⟨r, e, h⟩ | h
  · obtain ⟨-, t, v, pa, -, -, -, -, -, -, h6, h7⟩ := h
    have h8 : 8 * r + 7 ≤ a := h7
    omega
  · exact absurd (h.1.symm.trans hw) (by decide)
theorem psInv_go {bf : Nat → Int32} {b rm : Nat} {T : Nat × Bool × TyS} {w : Bool} {a : Nat} {rd : Nat → Int32} (hb : b ≤ 60) (hw : w = true) (hab : a < b) (h : psInv bf b T rm (w, a, rd)) (hn : tkB bf b w 59 a = true) : psInv bf b T (if (psP bf b rm (psT bf b 59 (w, a, rd))).1 = true then rm + 1 else rm) (psP bf b rm (psT bf b 59 (w, a, rd))) := by
  rcases h with ⟨r, e, h⟩ | h
  · rcases psS_ok hb hab h with q | q
    · rw [← e] at q
      rcases psP_ok q with z | z
      · exact Or.inl ⟨rm, by rw [if_pos z.1], z⟩
      · exact Or.inr z
    · have := q.1
      rw [show (psT bf b 59 (w, a, rd)).1 = tkB bf b w 59 a from rfl, hn] at this
      exact absurd this (by decide)
  · exact absurd (h.1.symm.trans hw) (by decide)
theorem psInv_f {bf : Nat → Int32} {b rm : Nat} {T : Nat × Bool × TyS} {w : Bool} {a : Nat} {rd : Nat → Int32} (hw : w = false) (h : psInv bf b T rm (w, a, rd)) : psEnd T w a rm rd := by
  rcases h with ⟨r, e, h⟩ | h
  · exact absurd (hw.symm.trans h.1) (by decide)
  · exact psEnd_bad rm h
theorem psInv_e {bf : Nat → Int32} {b rm : Nat} {T : Nat × Bool × TyS} {w : Bool} {a : Nat} {rd : Nat → Int32} (hw : w = true) (hab : b ≤ a) (h : psInv bf b T rm (w, a, rd)) : psEnd T w a rm rd := by
  rcases h with ⟨r, e, h⟩ | h
  · rw [e]; exact psEnd_fin hab h
  · exact psEnd_bad rm h
/-- the points that are told, put in one by one -/
def mIp (rd : Nat → Int32) : Nat → Nat → Nat → (Nat → Nat → Int32) → Nat × Nat × (Nat → Nat → Int32)
  | 0, i, n, P => (i, n, P)
  | k + 1, i, n, P => if mRef n P (rd (5 * i)) (rd (5 * i + 1)) (rd (5 * i + 2)) (rd (5 * i + 3)) (rd (5 * i + 4)) = 0
      then mIp rd k (i + 1) (n + 1) (mIns n P (rd (5 * i)) (rd (5 * i + 1)) (rd (5 * i + 2)) (rd (5 * i + 3)) (rd (5 * i + 4))) else (i, n, P)
def mIq (rd : Nat → Int32) (rm i n : Nat) (P : Nat → Nat → Int32) : Nat × Nat × (Nat → Nat → Int32) := mIp rd (rm - i) i n P
theorem mIq_end {rd : Nat → Int32} {rm i n : Nat} {P : Nat → Nat → Int32} (h : rm ≤ i) : mIq rd rm i n P = (i, n, P) := by
  unfold mIq
  rw [show rm - i = 0 by omega, mIp]
theorem mIq_no {rd : Nat → Int32} {rm i n : Nat} {P : Nat → Nat → Int32} (h : i < rm) (h2 : ¬ mRef n P (rd (5 * i)) (rd (5 * i + 1)) (rd (5 * i + 2)) (rd (5 * i + 3)) (rd (5 * i + 4)) = 0) : mIq rd rm i n P = (i, n, P) := by
  unfold mIq
  rw [show rm - i = (rm - (i + 1)) + 1 by omega, mIp, if_neg h2]
theorem mIq_go {rd : Nat → Int32} {rm i n : Nat} {P : Nat → Nat → Int32} (h : i < rm) (h2 : mRef n P (rd (5 * i)) (rd (5 * i + 1)) (rd (5 * i + 2)) (rd (5 * i + 3)) (rd (5 * i + 4)) = 0) : mIq rd rm i n P = mIq rd rm (i + 1) (n + 1) (mIns n P (rd (5 * i)) (rd (5 * i + 1)) (rd (5 * i + 2)) (rd (5 * i + 3)) (rd (5 * i + 4))) := by
  unfold mIq
  rw [show rm - i = (rm - (i + 1)) + 1 by omega, mIp, if_pos h2]
theorem mRef_rng {n : Nat} {P : Nat → Nat → Int32} {x y wd hg wt : Int32} (h : mRef n P x y wd hg wt = 0) : (0 ≤ x.toInt ∧ x.toInt ≤ 59) ∧ (0 ≤ y.toInt ∧ y.toInt ≤ 39) ∧ (1 ≤ wd.toInt ∧ wd.toInt ≤ 20) ∧ (1 ≤ hg.toInt ∧ hg.toInt ≤ 9) ∧ (1 ≤ wt.toInt ∧ wt.toInt ≤ 99) := by
  unfold mRef at h
  split at h
  · rename_i q
    simp only [Bool.and_eq_true] at q
    exact ⟨mIn_rng q.1, mIn_rng q.2.1, mIn_rng q.2.2.1, mIn_rng q.2.2.2.1, mIn_rng q.2.2.2.2⟩
  · exact absurd h (by decide)
theorem bd_ok_ins {n : Nat} {P : Nat → Nat → Int32} {x y wd hg wt : Int32} (hb : bd_ok n P) (h : mRef n P x y wd hg wt = 0) : bd_ok (n + 1) (mIns n P x y wd hg wt) := by
  have hr := mRef_rng h
  intro i hi
  by_cases hin : i = n
  · subst hin
    refine ⟨by simpa [mIns] using hr.1, by simpa [mIns] using hr.2.1, by simpa [mIns] using hr.2.2.1, by simpa [mIns] using hr.2.2.2.1, by simpa [mIns] using hr.2.2.2.2, Or.inl (by simp [mIns])⟩
  · have h1 := bd_ok_dr (q := n) (x := x) (y := y) hb i (by omega)
    unfold mIns
    simp only [if_neg hin]
    exact h1
theorem tyR_b {bf : Nat → Int32} {b : Nat} {td : Nat → Int32} : (tyR bf b 0 (tyIn td)).2.2.1 < 8 ∧ (tyR bf b 0 (tyIn td)).2.2.2.1 < 5 := tyR_ok (b := b) (b - 0) 0 (tyIn td) (by show 0 < 8; decide) (by show 0 < 5; decide)
theorem psEnd_rm {bf : Nat → Int32} {b : Nat} {td : Nat → Int32} {w : Bool} {a rm : Nat} {rd : Nat → Int32} (h : psEnd (tyR bf b 0 (tyIn td)) w a rm rd) (hw : w = true) : rm ≤ 8 := by
  have h1 := (h.2.2 hw).1
  have h2 := (tyR_b (bf := bf) (b := b) (td := td)).1
  omega
