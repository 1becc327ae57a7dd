/-! THE TEXT OF POINTS, as the reference reads it; and that it reads what the class scans -/
theorem tyR_ok {bf : Nat → Int32} {b : Nat} : ∀ (k i : Nat) (s : TyS), s.1 < 8 → s.2.1 < 5 → (tyRun bf k i s).2.2.1 < 8 ∧ (tyRun bf k i s).2.2.2.1 < 5
  | 0, i, s, h1, h2 => ⟨h1, h2⟩
  | k + 1, i, s, h1, h2 => by
    have h := tkS_ok (c := bf i) h1 h2
    rw [tyRun]
    split
    · exact tyR_ok (b := b) k (i + 1) _ h.1 h.2
    · exact h
def mSg (bf : Nat → Int32) (b a : Nat) : Int32 := if a < b then bf a else 0
def mNl (bf : Nat → Int32) (b : Nat) (most : Int32) : Nat → Int32 → Nat → Int32 × Nat
  | 0, its, a => (its, a)
  | k + 1, its, a => if 0 < its ∧ mIn (mSg bf b a) 48 57 = true ∧ 10 * its + mSg bf b a - 48 ≤ most then mNl bf b most k (10 * its + mSg bf b a - 48) (a + 1) else (its, a)
def mNm (bf : Nat → Int32) (b : Nat) (w : Bool) (most its : Int32) (a : Nat) : Int32 × Nat := if w = true then mNl bf b most (b - a) its a else (its, a)
theorem mSg_no {bf : Nat → Int32} {b a : Nat} (h : b ≤ a) : mSg bf b a = 0 := by
  unfold mSg
  rw [if_neg (by omega)]
theorem mSg_at {bf : Nat → Int32} {b a : Nat} (h : a < b) : mSg bf b a = bf a := by
  unfold mSg
  rw [if_pos h]
theorem mSg_lt {bf : Nat → Int32} {b a : Nat} (h : mIn (mSg bf b a) 48 57 = true) : a < b := by
  by_cases hab : a < b
  · exact hab
  · rw [mSg_no (by omega)] at h
    exact absurd h (by decide)
theorem mNl_0 {bf : Nat → Int32} {b : Nat} {most : Int32} (k : Nat) {its : Int32} {a : Nat} (h : ¬ (0 < its ∧ mIn (mSg bf b a) 48 57 = true ∧ 10 * its + mSg bf b a - 48 ≤ most)) : mNl bf b most k its a = (its, a) := by
  cases k with
  | zero => rfl
  | succ k => rw [mNl, if_neg h]
theorem mNm_end {bf : Nat → Int32} {b : Nat} {w : Bool} {most its : Int32} {a : Nat} (h : ¬ (w = true ∧ 0 < its ∧ mIn (mSg bf b a) 48 57 = true ∧ 10 * its + mSg bf b a - 48 ≤ most)) : mNm bf b w most its a = (its, a) := by
  unfold mNm
  by_cases hw : w = true
  · rw [if_pos hw]
    exact mNl_0 _ (fun q => h ⟨hw, q⟩)
  · rw [if_neg hw]
theorem mNm_step {bf : Nat → Int32} {b : Nat} {w : Bool} {most its : Int32} {a : Nat} (hw : w = true) (h1 : 0 < its) (h2 : mIn (mSg bf b a) 48 57 = true) (h3 : 10 * its + mSg bf b a - 48 ≤ most) : mNm bf b w most its a = mNm bf b w most (10 * its + mSg bf b a - 48) (a + 1) := by
  have hab := mSg_lt h2
  unfold mNm
  rw [if_pos hw, if_pos hw, show b - a = (b - (a + 1)) + 1 by omega, mNl, if_pos ⟨h1, h2, h3⟩]
def nmW (bf : Nat → Int32) (b : Nat) (w : Bool) (least : Int32) (a : Nat) : Bool := w && mIn (mSg bf b a) (48 + least) 57
def nmR (bf : Nat → Int32) (b : Nat) (w : Bool) (least most : Int32) (a : Nat) : Int32 × Nat := mNm bf b (nmW bf b w least a) most (mSg bf b a - 48) (if nmW bf b w least a = true then a + 1 else a)
def tkB (bf : Nat → Int32) (b : Nat) (w : Bool) (c : Int32) (a : Nat) : Bool := w && decide (mSg bf b a = c)
abbrev PS : Type := Bool × Nat × (Nat → Int32)
def psN (bf : Nat → Int32) (b : Nat) (k : Nat) (least most : Int32) (s : PS) : PS := (nmW bf b s.1 least s.2.1, (nmR bf b s.1 least most s.2.1).2, upd s.2.2 k (nmR bf b s.1 least most s.2.1).1)
def psT (bf : Nat → Int32) (b : Nat) (c : Int32) (s : PS) : PS := (tkB bf b s.1 c s.2.1, if tkB bf b s.1 c s.2.1 = true then s.2.1 + 1 else s.2.1, s.2.2)
def psL (bf : Nat → Int32) (b : Nat) (k : Nat) (s : PS) : PS := if tkB bf b s.1 42 s.2.1 = true then psN bf b k 1 99 (s.1, s.2.1 + 1, s.2.2) else (s.1, s.2.1, upd s.2.2 k 1)
theorem mDig_in {c least : Int32} (hl : least = 0 ∨ least = 1) (h : mIn c (48 + least) 57 = true) : mIn c 48 57 = true := by
  unfold mIn at *
  rw [decide_eq_true_iff] at *
  rcases hl with rfl | rfl
  · exact h
  · exact ⟨Int32.le_trans (by decide) h.1, h.2⟩
theorem mNl_le {bf : Nat → Int32} {b : Nat} {most : Int32} : ∀ (k : Nat) (its : Int32) (a : Nat), a ≤ b → (mNl bf b most k its a).2 ≤ b
  | 0, its, a, h => h
  | k + 1, its, a, h => by
    rw [mNl]
    split
    · rename_i q
      exact mNl_le k _ _ (mSg_lt q.2.1)
    · exact h
theorem nmR_le {bf : Nat → Int32} {b : Nat} {w : Bool} {least most : Int32} {a : Nat} (hl : least = 0 ∨ least = 1) (h : a ≤ b) : (nmR bf b w least most a).2 ≤ b := by
  unfold nmR mNm
  by_cases hw : nmW bf b w least a = true
  · rw [if_pos hw]
    refine mNl_le _ _ _ ?_
    rw [if_pos hw]
    unfold nmW at hw
    rw [Bool.and_eq_true] at hw
    exact mSg_lt (mDig_in hl hw.2)
  · rw [if_neg hw]
    show (if nmW bf b w least a = true then a + 1 else a) ≤ b
    rw [if_neg hw]
    exact h
theorem tkB_lt {bf : Nat → Int32} {b : Nat} {w : Bool} {c : Int32} {a : Nat} (hc : ¬ c = 0) (h : tkB bf b w c a = true) : a < b := by
  unfold tkB at h
  rw [Bool.and_eq_true, decide_eq_true_iff] at h
  by_cases hab : a < b
  · exact hab
  · rw [mSg_no (by omega)] at h
    exact absurd h.2.symm hc
theorem psN_le {bf : Nat → Int32} {b k : Nat} {least most : Int32} {s : PS} (hl : least = 0 ∨ least = 1) (h : s.2.1 ≤ b) : (psN bf b k least most s).2.1 ≤ b := nmR_le hl h
theorem psT_le {bf : Nat → Int32} {b : Nat} {c : Int32} {s : PS} (hc : ¬ c = 0) (h : s.2.1 ≤ b) : (psT bf b c s).2.1 ≤ b := by
  unfold psT
  dsimp only
  split
  · rename_i q
    exact tkB_lt hc q
  · exact h
theorem psL_le {bf : Nat → Int32} {b k : Nat} {s : PS} (h : s.2.1 ≤ b) : (psL bf b k s).2.1 ≤ b := by
  unfold psL
  split
  · rename_i q
    exact psN_le (Or.inr rfl) (tkB_lt (by decide) q)
  · exact h
/-! numbers -/
def tyMn (pa : Nat) : Nat := if pa = 0 then 59 else if pa = 1 then 39 else if pa = 2 then 20 else if pa = 3 then 9 else 99
def tyLn (pa : Nat) : Nat := if pa < 2 then 0 else 1
theorem tyMost_n (pa : Nat) : tyMost pa = nI (tyMn pa) := by
  unfold tyMost tyMn
  repeat' split
  all_goals rfl
theorem tyLeast_n (pa : Nat) : tyLeast pa = nI (tyLn pa) := by
  unfold tyLeast tyLn
  repeat' split
  all_goals rfl
theorem tyMn_b (pa : Nat) : 9 ≤ tyMn pa ∧ tyMn pa ≤ 99 := by
  unfold tyMn
  repeat' split
  all_goals omega
theorem tyLn_b (pa : Nat) : tyLn pa ≤ 1 := by
  unfold tyLn
  split <;> omega
theorem nI_sub48 (n : Nat) : nI (48 + n) - 48 = nI n := by
  rw [show nI (48 + n) = nI n + 48 by rw [Nat.add_comm]; exact (nI_add n 48).symm]
  exact Int32.add_sub_cancel _ _
theorem mDig {c : Int32} (h : mIn c 48 57 = true) : ∃ d, d ≤ 9 ∧ c = nI (48 + d) := by
  have h0 : mIn c 0 57 = true := by
    unfold mIn at *
    rw [decide_eq_true_iff] at *
    exact ⟨Int32.le_trans (by decide) h.1, h.2⟩
  obtain ⟨k, hk, rfl⟩ := mIn_nat (m := 57) h0 (by decide)
  have h2 := (mIn_rng h).1
  rw [nI_toInt (by omega), show (48 : Int32).toInt = 48 from rfl] at h2
  exact ⟨k - 48, by omega, by rw [show 48 + (k - 48) = k by omega]⟩
theorem mDig_iff {c : Int32} : mIn c 48 57 = true ↔ (48 ≤ c ∧ c ≤ 57) := by
  unfold mIn
  rw [decide_eq_true_iff]
theorem nI_nm1 {x : Nat} (h : x < 2 ^ 31) : ¬ nI x = -1 := by
  intro q
  have h1 := nI_toInt h
  rw [q, show (-1 : Int32).toInt = -1 from rfl] at h1
  omega
theorem tyLg_n {d x : Nat} (hx : x < 2 ^ 31) : tyLg (nI (48 + d) - 48) (nI x) = nI (10 * x + d) := by
  unfold tyLg
  rw [if_neg (nI_nm1 hx), nI_sub48, show (10 : Int32) = nI 10 from rfl, pk_mul, nI_add, Nat.mul_comm x 10]
theorem mLg_n {d x : Nat} : 10 * nI x + nI (48 + d) - 48 = nI (10 * x + d) := by
  rw [show (10 : Int32) = nI 10 from rfl, pk_mul, nI_add, show 10 * x + (48 + d) = 48 + (10 * x + d) by omega, nI_sub48]
/-- a digit at a value -/
theorem tkS_dv {d x r pa : Nat} {t : Nat → Int32} (hd : d ≤ 9) (hx : x ≤ 99) (h0 : 0 < x) (h : 10 * x + d ≤ tyMn pa) : tkS (nI (48 + d)) (r, pa, nI x, t) = (true, r, pa, nI (10 * x + d), upd t (r * 5 + pa) (nI (10 * x + d))) := by
  have hc : (48 : Int32) ≤ nI (48 + d) ∧ nI (48 + d) ≤ 57 := ⟨(nI_leI (a := 48) (by omega) (by omega)).mpr (by omega), (nI_leI (b := 57) (by omega) (by omega)).mpr (by omega)⟩
  rw [tkS_dg hc]
  have hM := tyMn_b pa
  have hL := tyLn_b pa
  unfold tyDg
  dsimp only
  rw [if_neg (nI_ne0 h0 (by omega)), tyLg_n (by omega), tyLeast_n, tyMost_n, if_neg]
  intro q
  rcases q with q | q
  · have := (nI_ltI (by omega) (by omega)).mp q; omega
  · have := (nI_ltI (by omega) (by omega)).mp q; omega
theorem tkS_dno {d x r pa : Nat} {t : Nat → Int32} (hd : d ≤ 9) (hx : x ≤ 99) (h : x = 0 ∨ tyMn pa < 10 * x + d) : tkS (nI (48 + d)) (r, pa, nI x, t) = (false, r, pa, nI x, t) := by
  have hc : (48 : Int32) ≤ nI (48 + d) ∧ nI (48 + d) ≤ 57 := ⟨(nI_leI (a := 48) (by omega) (by omega)).mpr (by omega), (nI_leI (b := 57) (by omega) (by omega)).mpr (by omega)⟩
  rw [tkS_dg hc]
  have hM := tyMn_b pa
  unfold tyDg
  dsimp only
  by_cases h0 : x = 0
  · subst h0
    rw [if_pos (show nI 0 = 0 from rfl)]
  · rw [if_neg (nI_ne0 (by omega) (by omega)), tyLg_n (by omega), tyMost_n, if_pos]
    exact Or.inr ((nI_ltI (by omega) (by omega)).mpr (by omega))
/-- the first digit -/
theorem tkS_d1 {d r pa : Nat} {t : Nat → Int32} (hd : d ≤ 9) : tkS (nI (48 + d)) (r, pa, -1, t) = if d < tyLn pa then (false, r, pa, -1, t) else (true, r, pa, nI d, upd t (r * 5 + pa) (nI d)) := by
  have hc : (48 : Int32) ≤ nI (48 + d) ∧ nI (48 + d) ≤ 57 := ⟨(nI_leI (a := 48) (by omega) (by omega)).mpr (by omega), (nI_leI (b := 57) (by omega) (by omega)).mpr (by omega)⟩
  rw [tkS_dg hc]
  have hM := tyMn_b pa
  have hL := tyLn_b pa
  unfold tyDg tyLg
  dsimp only
  rw [if_neg (by decide), if_pos rfl, nI_sub48, tyLeast_n, tyMost_n]
  by_cases h : d < tyLn pa
  · rw [if_pos h, if_pos (Or.inl ((nI_ltI (by omega) (by omega)).mpr h))]
  · rw [if_neg h, if_neg]
    intro q
    rcases q with q | q
    · exact h ((nI_ltI (by omega) (by omega)).mp q)
    · have := (nI_ltI (by omega) (by omega)).mp q; omega
theorem upd_upd {t : Nat → Int32} {k : Nat} {v v2 : Int32} : upd (upd t k v) k v2 = upd t k v2 := by
  funext z
  unfold upd
  by_cases hz : z = k
  · rw [if_pos hz, if_pos hz]
  · rw [if_neg hz, if_neg hz, if_neg hz]
/-- no digit goes on here -/
def tyNc (bf : Nat → Int32) (b i : Nat) (s : TyS) : Prop := i < b → mIn (bf i) 48 57 = true → tkS (bf i) s = (false, s)
theorem mNl_ty {bf : Nat → Int32} {b r pa : Nat} {t : Nat → Int32} : ∀ (k x a : Nat), a ≤ b → b ≤ a + k → x ≤ 99 → ∃ y a2, mNl bf b (tyMost pa) k (nI x) a = (nI y, a2) ∧ y ≤ 99 ∧ a ≤ a2 ∧ a2 ≤ b ∧ tyR bf b a (r, pa, nI x, upd t (r * 5 + pa) (nI x)) = tyR bf b a2 (r, pa, nI y, upd t (r * 5 + pa) (nI y)) ∧ tyNc bf b a2 (r, pa, nI y, upd t (r * 5 + pa) (nI y))
  | 0, x, a, h1, h2, hx => ⟨x, a, rfl, hx, Nat.le_refl _, h1, rfl, fun h => absurd h (by omega)⟩
  | k + 1, x, a, h1, h2, hx => by
    have hM := tyMn_b pa
    by_cases hg : 0 < nI x ∧ mIn (mSg bf b a) 48 57 = true ∧ 10 * nI x + mSg bf b a - 48 ≤ tyMost pa
    · have hab := mSg_lt hg.2.1
      obtain ⟨d, hd, ed⟩ := mDig hg.2.1
      have h3 := hg.2.2
      rw [ed, mLg_n, tyMost_n, nI_leI (by omega) (by omega)] at h3
      have hx0 : 0 < x := by
        rcases Nat.eq_zero_or_pos x with q | q
        · rw [q] at hg; exact absurd hg.1 (by decide)
        · exact q
      obtain ⟨y, a2, e1, e2, e3, e4, e5, e6⟩ := mNl_ty (bf := bf) (b := b) (t := t) (r := r) (pa := pa) k (10 * x + d) (a + 1) (by omega) (by omega) (by omega)
      refine ⟨y, a2, ?_, e2, by omega, e4, ?_, e6⟩
      · rw [mNl, if_pos hg, ed, mLg_n, e1]
      · rw [← e5]
        have hk := tkS_dv (r := r) (t := upd t (r * 5 + pa) (nI x)) hd hx hx0 h3
        rw [mSg_at hab] at ed
        rw [tyR_go hab (by rw [ed, hk]), ed, hk, upd_upd]
    · refine ⟨x, a, by rw [mNl, if_neg hg], hx, Nat.le_refl _, h1, rfl, fun hab hdg => ?_⟩
      obtain ⟨d, hd, ed⟩ := mDig hdg
      rw [ed]
      refine tkS_dno hd hx ?_
      rcases Nat.eq_zero_or_pos x with q | q
      · exact Or.inl q
      · right
        rcases Nat.lt_or_ge (tyMn pa) (10 * x + d) with z | z
        · exact z
        · exfalso
          refine hg ⟨(nI_ltI (a := 0) (by omega) (by omega)).mpr q, by rw [mSg_at hab]; exact hdg, ?_⟩
          rw [mSg_at hab, ed, mLg_n, tyMost_n, nI_leI (by omega) (by omega)]
          exact z
/-! the stages of a point -/
def psBad (T : Nat × Bool × TyS) (s : PS) : Prop := s.1 = false ∧ T.1 = s.2.1 ∧ ¬ (T.2.1 = true ∧ tyEnd T.2.2 = true)
def psGN (bf : Nat → Int32) (b : Nat) (T : Nat × Bool × TyS) (r pa : Nat) (s : PS) : Prop :=
  s.1 = true ∧ ∃ t : Nat → Int32, T = tyR bf b s.2.1 (r, pa, -1, t) ∧ (∀ j, j < 5 * r + pa → s.2.2 j = t j) ∧ t (5 * r + 4) = 1 ∧ s.2.1 ≤ b ∧ 8 * r + 2 * pa ≤ s.2.1
def psGV (bf : Nat → Int32) (b : Nat) (T : Nat × Bool × TyS) (r pa : Nat) (s : PS) : Prop :=
  s.1 = true ∧ ∃ (t : Nat → Int32) (v : Nat), v ≤ 99 ∧ T = tyR bf b s.2.1 (r, pa, nI v, t) ∧ tyNc bf b s.2.1 (r, pa, nI v, t) ∧ (∀ j, j < 5 * r + pa + 1 → s.2.2 j = t j) ∧ (pa < 4 → t (5 * r + 4) = 1) ∧ s.2.1 ≤ b ∧ 8 * r + 2 * pa + 1 ≤ s.2.1
theorem psN_bad {bf : Nat → Int32} {b k : Nat} {T : Nat × Bool × TyS} {least most : Int32} {s : PS} (h : psBad T s) : psBad T (psN bf b k least most s) := by
  obtain ⟨h1, h2, h3⟩ := h
  have hw : nmW bf b s.1 least s.2.1 = false := by unfold nmW; rw [h1]; rfl
  refine ⟨hw, ?_, h3⟩
  show T.1 = (nmR bf b s.1 least most s.2.1).2
  unfold nmR mNm
  rw [hw]
  simpa using h2
theorem psT_bad {bf : Nat → Int32} {b : Nat} {T : Nat × Bool × TyS} {c : Int32} {s : PS} (h : psBad T s) : psBad T (psT bf b c s) := by
  obtain ⟨h1, h2, h3⟩ := h
  have hw : tkB bf b s.1 c s.2.1 = false := by unfold tkB; rw [h1]; rfl
  refine ⟨hw, ?_, h3⟩
  unfold psT
  rw [hw]
  simpa using h2
theorem psL_bad {bf : Nat → Int32} {b k : Nat} {T : Nat × Bool × TyS} {s : PS} (h : psBad T s) : psBad T (psL bf b k s) := by
  have hw : tkB bf b s.1 42 s.2.1 = false := by unfold tkB; rw [h.1]; rfl
  unfold psL
  rw [if_neg (by rw [hw]; decide)]
  exact h
theorem tyR_stop {bf : Nat → Int32} {b a : Nat} {s : TyS} (h1 : a ≤ b) (h : a < b → tkS (bf a) s = (false, s)) (he : b ≤ a → tyEnd s = false) : (tyR bf b a s).1 = a ∧ ¬ ((tyR bf b a s).2.1 = true ∧ tyEnd (tyR bf b a s).2.2 = true) := by
  rcases Nat.lt_or_ge a b with hab | hab
  · rw [tyR_no hab (by rw [h hab])]
    exact ⟨rfl, fun q => absurd (show false = true from q.1) (by decide)⟩
  · rw [tyR_end hab]
    exact ⟨rfl, fun q => by rw [he hab] at q; exact absurd q.2 (by decide)⟩
theorem psN_ok {bf : Nat → Int32} {b r pa k : Nat} {T : Nat × Bool × TyS} {s : PS} (hk : k = 5 * r + pa) (h : psGN bf b T r pa s) : psGV bf b T r pa (psN bf b k (tyLeast pa) (tyMost pa) s) ∨ psBad T (psN bf b k (tyLeast pa) (tyMost pa) s) := by
  subst hk
  obtain ⟨h1, t, h2, h3, h4, h5, h6⟩ := h
  have hL := tyLn_b pa
  have hM := tyMn_b pa
  have hl : tyLeast pa = 0 ∨ tyLeast pa = 1 := by
    unfold tyLeast
    split
    · exact Or.inl rfl
    · exact Or.inr rfl
  cases hw : nmW bf b s.1 (tyLeast pa) s.2.1 with
  | false =>
    right
    have hr : (nmR bf b s.1 (tyLeast pa) (tyMost pa) s.2.1).2 = s.2.1 := by
      unfold nmR mNm
      rw [hw]
      simp
    have hst := tyR_stop (bf := bf) (s := (r, pa, -1, t)) h5 (fun hab => ?_) (fun _ => by simp [tyEnd])
    · refine ⟨hw, ?_, ?_⟩
      · show T.1 = (nmR bf b s.1 (tyLeast pa) (tyMost pa) s.2.1).2
        rw [hr, h2]
        exact hst.1
      · rw [h2]
        exact hst.2
    · by_cases hdg : mIn (bf s.2.1) 48 57 = true
      · obtain ⟨d, hd, ed⟩ := mDig hdg
        unfold nmW at hw
        rw [h1, mSg_at hab, ed, Bool.true_and] at hw
        have hdl : d < tyLn pa := by
          rcases Nat.lt_or_ge d (tyLn pa) with z | z
          · exact z
          · exfalso
            unfold mIn at hw
            rw [decide_eq_false_iff_not] at hw
            refine hw ⟨?_, (nI_leI (b := 57) (by omega) (by omega)).mpr (by omega)⟩
            rw [tyLeast_n, show (48 : Int32) = nI 48 from rfl, nI_add, nI_leI (by omega) (by omega)]
            omega
        rw [ed, tkS_d1 hd, if_pos hdl]
      · refine tkS_f (fun q => hdg (mDig_iff.mpr q)) ?_
        unfold tyNv
        rw [if_pos rfl]
  | true =>
    left
    have hw2 := hw
    unfold nmW at hw2
    rw [Bool.and_eq_true] at hw2
    have hdg := mDig_in hl hw2.2
    have hab := mSg_lt hdg
    obtain ⟨d, hd, ed⟩ := mDig hdg
    have hdl : ¬ d < tyLn pa := by
      have h7 := hw2.2
      rw [ed] at h7
      unfold mIn at h7
      rw [decide_eq_true_iff, tyLeast_n, show (48 : Int32) = nI 48 from rfl, nI_add, nI_leI (by omega) (by omega)] at h7
      omega
    obtain ⟨y, a2, e1, e2, e3, e4, e5, e6⟩ := mNl_ty (bf := bf) (b := b) (t := t) (r := r) (pa := pa) (b - (s.2.1 + 1)) d (s.2.1 + 1) (by omega) (by omega) (by omega)
    have hr : nmR bf b s.1 (tyLeast pa) (tyMost pa) s.2.1 = (nI y, a2) := by
      unfold nmR mNm
      rw [if_pos hw, if_pos hw, ed, nI_sub48, e1]
    refine ⟨hw, upd t (r * 5 + pa) (nI y), y, e2, ?_, ?_, ?_, ?_, ?_, ?_⟩
    · show T = tyR bf b (nmR bf b s.1 (tyLeast pa) (tyMost pa) s.2.1).2 _
      rw [hr]
      rw [mSg_at hab] at ed
      rw [h2, tyR_go hab (by rw [ed, tkS_d1 hd, if_neg hdl]), ed, tkS_d1 hd, if_neg hdl]
      exact e5
    · show tyNc bf b (nmR bf b s.1 (tyLeast pa) (tyMost pa) s.2.1).2 _
      rw [hr]
      exact e6
    · intro j hj
      show upd s.2.2 (5 * r + pa) (nmR bf b s.1 (tyLeast pa) (tyMost pa) s.2.1).1 j = _
      rw [hr]
      unfold upd
      by_cases hjk : j = 5 * r + pa
      · rw [if_pos hjk, if_pos (by omega)]
      · rw [if_neg hjk, if_neg (by omega)]
        exact h3 j (by omega)
    · intro hp
      unfold upd
      rw [if_neg (by omega)]
      exact h4
    · show (nmR bf b s.1 (tyLeast pa) (tyMost pa) s.2.1).2 ≤ b
      rw [hr]
      exact e4
    · show _ ≤ (nmR bf b s.1 (tyLeast pa) (tyMost pa) s.2.1).2
      rw [hr]
      show _ ≤ a2
      omega
def sepC (pa : Nat) : Int32 := if pa = 0 then 44 else if pa = 1 then 58 else if pa = 2 then 120 else 42
theorem tyNv_v {v pa : Nat} {c : Int32} (hv : v ≤ 99) : tyNv (nI v) pa c = tyNx pa c := by
  unfold tyNv
  rw [if_neg (nI_nm1 (by omega))]
theorem tyNx_sep {pa : Nat} (h : pa < 4) : tyNx pa (sepC pa) = nI (pa + 1) := by
  rcases (show pa = 0 ∨ pa = 1 ∨ pa = 2 ∨ pa = 3 by omega) with rfl | rfl | rfl | rfl <;> rfl
theorem sepC_nd {pa : Nat} : ¬ (48 ≤ sepC pa ∧ sepC pa ≤ 57) := by
  unfold sepC
  repeat' split
  all_goals decide
theorem sepC_n0 {pa : Nat} : ¬ sepC pa = 0 := by
  unfold sepC
  repeat' split
  all_goals decide
theorem tkS_sep {r pa v : Nat} {t : Nat → Int32} (hp : pa < 4) (hv : v ≤ 99) : tkS (sepC pa) (r, pa, nI v, t) = (true, r, pa + 1, -1, t) := by
  refine tkS_n sepC_nd ?_ ?_ (by omega) ?_
  · rw [tyNv_v hv, tyNx_sep hp]; exact nI_nm1 (by omega)
  · rw [tyNv_v hv, tyNx_sep hp]; exact nI_ne0 (by omega) (by omega)
  · rw [tyNv_v hv, tyNx_sep hp]
theorem tkS_nsep {r pa v : Nat} {t : Nat → Int32} {c : Int32} (hp : pa < 3) (hv : v ≤ 99) (hc : ¬ c = sepC pa) (hd : ¬ mIn c 48 57 = true) : tkS c (r, pa, nI v, t) = (false, r, pa, nI v, t) := by
  refine tkS_f (fun q => hd (mDig_iff.mpr q)) ?_
  rw [tyNv_v hv]
  rcases (show pa = 0 ∨ pa = 1 ∨ pa = 2 by omega) with rfl | rfl | rfl <;> (unfold sepC at hc; unfold tyNx; simp at hc ⊢; exact hc)
theorem psT_ok {bf : Nat → Int32} {b r pa : Nat} {T : Nat × Bool × TyS} {s : PS} (hp : pa < 3) (h : psGV bf b T r pa s) : psGN bf b T r (pa + 1) (psT bf b (sepC pa) s) ∨ psBad T (psT bf b (sepC pa) s) := by
  obtain ⟨h1, t, v, hv, h2, h3, h4, h5, h6, h7⟩ := h
  cases hw : tkB bf b s.1 (sepC pa) s.2.1 with
  | true =>
    left
    have hab := tkB_lt sepC_n0 hw
    have hc : bf s.2.1 = sepC pa := by
      unfold tkB at hw
      rw [Bool.and_eq_true, decide_eq_true_iff, mSg_at hab] at hw
      exact hw.2
    have e : (psT bf b (sepC pa) s).2.1 = s.2.1 + 1 := by
      unfold psT
      simp [hw]
    refine ⟨hw, t, ?_, h4, h5 (by omega), ?_, ?_⟩
    · rw [e, h2, tyR_go hab (by rw [hc, tkS_sep (by omega) hv]), hc, tkS_sep (by omega) hv]
    · rw [e]; omega
    · rw [e]; omega
  | false =>
    right
    have e : (psT bf b (sepC pa) s).2.1 = s.2.1 := by
      unfold psT
      simp [hw]
    have hst := tyR_stop (bf := bf) (s := (r, pa, nI v, t)) h6 (fun hab => ?_) (fun _ => by simp [tyEnd]; intro; omega)
    · exact ⟨hw, by rw [e, h2]; exact hst.1, by rw [h2]; exact hst.2⟩
    · by_cases hdg : mIn (bf s.2.1) 48 57 = true
      · exact h3 hab hdg
      · refine tkS_nsep hp hv (fun q => ?_) hdg
        unfold tkB at hw
        rw [h1, mSg_at hab, q] at hw
        simp at hw
/-- a point that is told whole -/
def psFin (bf : Nat → Int32) (b : Nat) (T : Nat × Bool × TyS) (r : Nat) (s : PS) : Prop :=
  s.1 = true ∧ ∃ (t : Nat → Int32) (v pa : Nat), (pa = 3 ∨ pa = 4) ∧ v ≤ 99 ∧ T = tyR bf b s.2.1 (r, pa, nI v, t) ∧ tyNc bf b s.2.1 (r, pa, nI v, t) ∧ (pa = 3 → s.2.1 < b → ¬ bf s.2.1 = 42) ∧ (∀ j, j < 5 * r + 5 → s.2.2 j = t j) ∧ s.2.1 ≤ b ∧ 8 * r + 7 ≤ s.2.1
theorem psL_ok {bf : Nat → Int32} {b r k : Nat} {T : Nat × Bool × TyS} {s : PS} (hk : k = 5 * r + 4) (h : psGV bf b T r 3 s) : psFin bf b T r (psL bf b k s) ∨ psBad T (psL bf b k s) := by
  subst hk
  have hh := h
  obtain ⟨h1, t, v, hv, h2, h3, h4, h5, h6, h7⟩ := h
  unfold psL
  by_cases hw : tkB bf b s.1 42 s.2.1 = true
  · rw [if_pos hw]
    have hab := tkB_lt (by decide) hw
    have hc : bf s.2.1 = sepC 3 := by
      unfold tkB at hw
      rw [Bool.and_eq_true, decide_eq_true_iff, mSg_at hab] at hw
      exact hw.2
    have hg : psGN bf b T r 4 (s.1, s.2.1 + 1, s.2.2) := by
      refine ⟨h1, t, ?_, h4, h5 (by omega), ?_, ?_⟩
      · show T = tyR bf b (s.2.1 + 1) _
        rw [h2, tyR_go hab (by rw [hc, tkS_sep (by omega) hv]), hc, tkS_sep (by omega) hv]
      · show s.2.1 + 1 ≤ b; omega
      · show _ ≤ s.2.1 + 1; omega
    rcases psN_ok (k := 5 * r + 4) rfl hg with q | q
    · left
      obtain ⟨g1, t9, v9, g2, g3, g4, g5, g6, g7, g8⟩ := q
      exact ⟨g1, t9, v9, 4, Or.inr rfl, g2, g3, g4, fun z => absurd z (by decide), g5, g7, Nat.le_trans (by omega) g8⟩
    · exact Or.inr q
  · rw [if_neg hw]
    left
    refine ⟨h1, t, v, 3, Or.inl rfl, hv, h2, h3, fun _ hab q => hw ?_, fun j hj => ?_, h6, by omega⟩
    · unfold tkB
      rw [h1, mSg_at hab, q]
      rfl
    · show upd s.2.2 (5 * r + 4) 1 j = t j
      unfold upd
      by_cases hj4 : j = 5 * r + 4
      · rw [if_pos hj4, hj4, h5 (by omega)]
      · rw [if_neg hj4]
        exact h4 j (by omega)
/-- the reference's whole point -/
def psP (bf : Nat → Int32) (b r : Nat) (s : PS) : PS :=
  psL bf b (5 * r + 4) (psN bf b (5 * r + 3) 1 9 (psT bf b 120 (psN bf b (5 * r + 2) 1 20 (psT bf b 58 (psN bf b (5 * r + 1) 0 39 (psT bf b 44 (psN bf b (5 * r) 0 59 s)))))))
theorem psP_bad {bf : Nat → Int32} {b r : Nat} {T : Nat × Bool × TyS} {s : PS} (h : psBad T s) : psBad T (psP bf b r s) :=
  psL_bad (psN_bad (psT_bad (psN_bad (psT_bad (psN_bad (psT_bad (psN_bad h)))))))
theorem psP_ok {bf : Nat → Int32} {b r : Nat} {T : Nat × Bool × TyS} {s : PS} (h : psGN bf b T r 0 s) : psFin bf b T r (psP bf b r s) ∨ psBad T (psP bf b r s) := by
  rcases psN_ok (k := 5 * r) rfl h with h | h
  case inr => exact Or.inr (psL_bad (psN_bad (psT_bad (psN_bad (psT_bad (psN_bad (psT_bad h)))))))
  rcases psT_ok (by decide) h with h | h
  case inr => exact Or.inr (psL_bad (psN_bad (psT_bad (psN_bad (psT_bad (psN_bad h))))))
  rcases psN_ok (k := 5 * r + 1) rfl h with h | h
  case inr => exact Or.inr (psL_bad (psN_bad (psT_bad (psN_bad (psT_bad h)))))
  rcases psT_ok (by decide) h with h | h
  case inr => exact Or.inr (psL_bad (psN_bad (psT_bad (psN_bad h))))
  rcases psN_ok (k := 5 * r + 2) rfl h with h | h
  case inr => exact Or.inr (psL_bad (psN_bad (psT_bad h)))
  rcases psT_ok (by decide) h with h | h
  case inr => exact Or.inr (psL_bad (psN_bad h))
  rcases psN_ok (k := 5 * r + 3) rfl h with h | h
  case inr => exact Or.inr (psL_bad h)
  exact psL_ok rfl h
theorem psS_ok {bf : Nat → Int32} {b r : Nat} {T : Nat × Bool × TyS} {s : PS} (hb : b ≤ 60) (hab : s.2.1 < b) (h : psFin bf b T r s) : psGN bf b T (r + 1) 0 (psT bf b 59 s) ∨ psBad T (psT bf b 59 s) := by
  obtain ⟨h1, t, v, pa, hpa, hv, h2, h3, h4, h5, h6, h7⟩ := h
  cases hw : tkB bf b s.1 59 s.2.1 with
  | true =>
    left
    have hc : bf s.2.1 = 59 := by
      unfold tkB at hw
      rw [Bool.and_eq_true, decide_eq_true_iff, mSg_at hab] at hw
      exact hw.2
    have e : (psT bf b 59 s).2.1 = s.2.1 + 1 := by
      unfold psT
      simp [hw]
    have hk : tkS 59 (r, pa, nI v, t) = (true, r + 1, 0, -1, upd t ((r + 1) * 5 + 4) 1) := by
      have hz : tyNv (nI v) pa 59 = 0 := by
        rw [tyNv_v hv]
        rcases hpa with rfl | rfl <;> rfl
      rw [tkS_b (by decide) (by rw [hz]; decide) hz]
      unfold tyBg
      dsimp only
      rw [if_pos (by omega)]
    refine ⟨hw, upd t ((r + 1) * 5 + 4) 1, ?_, fun j hj => ?_, ?_, ?_, ?_⟩
    · rw [e, h2, tyR_go hab (by rw [hc, hk]), hc, hk]
    · show s.2.2 j = _
      unfold upd
      rw [if_neg (by omega)]
      exact h5 j (by omega)
    · unfold upd
      rw [if_pos (by omega)]
    · rw [e]; omega
    · rw [e]; omega
  | false =>
    right
    have e : (psT bf b 59 s).2.1 = s.2.1 := by
      unfold psT
      simp [hw]
    have hst := tyR_stop (bf := bf) (s := (r, pa, nI v, t)) h6 (fun _ => ?_) (fun q => absurd q (by omega))
    · exact ⟨hw, by rw [e, h2]; exact hst.1, by rw [h2]; exact hst.2⟩
    · by_cases hdg : mIn (bf s.2.1) 48 57 = true
      · exact h3 hab hdg
      · refine tkS_f (fun q => hdg (mDig_iff.mpr q)) ?_
        rw [tyNv_v hv]
        have hn : ¬ bf s.2.1 = 59 := by
          intro q
          unfold tkB at hw
          rw [h1, mSg_at hab, q] at hw
          simp at hw
        rcases hpa with rfl | rfl
        · have := h4 rfl hab
          unfold tyNx; simp [this, hn]
        · unfold tyNx; simp [hn]
/-- what the reference has read when it ends, in the words of the class's scan -/
def psEnd (T : Nat × Bool × TyS) (w : Bool) (a rm : Nat) (rd : Nat → Int32) : Prop :=
  a = T.1 ∧ w = (T.2.1 && tyEnd T.2.2) ∧ (w = true → rm = T.2.2.1 + 1 ∧ ∀ j, j < 5 * rm → rd j = T.2.2.2.2.2 j)
theorem psEnd_bad {T : Nat × Bool × TyS} {s : PS} (rm : Nat) (h : psBad T s) : psEnd T s.1 s.2.1 rm s.2.2 := by
  obtain ⟨h1, h2, h3⟩ := h
  refine ⟨h2.symm, ?_, fun q => by rw [h1] at q; exact absurd q (by decide)⟩
  rw [h1]
  cases hq : (T.2.1 && tyEnd T.2.2) with
  | false => rfl
  | true => rw [Bool.and_eq_true] at hq; exact absurd hq h3
theorem psEnd_fin {bf : Nat → Int32} {b r : Nat} {T : Nat × Bool × TyS} {s : PS} (hab : b ≤ s.2.1) (h : psFin bf b T r s) : psEnd T s.1 s.2.1 (r + 1) s.2.2 := by
  obtain ⟨h1, t, v, pa, hpa, hv, h2, h3, h4, h5, h6, h7⟩ := h
  rw [tyR_end hab] at h2
  subst h2
  refine ⟨rfl, ?_, fun _ => ⟨rfl, fun j hj => h5 j (by omega)⟩⟩
  rw [h1]
  have := nI_nm1 (x := v) (by omega)
  simp [tyEnd, this, hpa]
theorem psGN_in {bf : Nat → Int32} {b : Nat} {td rd : Nat → Int32} : psGN bf b (tyR bf b 0 (tyIn td)) 0 0 (true, 0, rd) :=
  ⟨rfl, upd td 4 1, rfl, fun j hj => absurd hj (by omega), by unfold upd; rw [if_pos rfl], Nat.zero_le _, Nat.le_refl _⟩
