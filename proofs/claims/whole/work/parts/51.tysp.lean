/-! THE TEXT OF POINTS, as the class scans it: (points begun before this one, part, value, told) -/
abbrev TyS : Type := Nat × Nat × Int32 × (Nat → Int32)
def tyBg (s : TyS) : Bool × TyS := if s.1 + 1 < 8 then (true, s.1 + 1, 0, -1, upd s.2.2.2 ((s.1 + 1) * 5 + 4) 1) else (false, s)
def tyLg (d v : Int32) : Int32 := if v = -1 then d else v * 10 + d
def tyDg (d : Int32) (s : TyS) : Bool × TyS :=
  if s.2.2.1 = 0 then (false, s)
  else if tyLg d s.2.2.1 < tyLeast s.2.1 ∨ tyMost s.2.1 < tyLg d s.2.2.1 then (false, s)
  else (true, s.1, s.2.1, tyLg d s.2.2.1, upd s.2.2.2 (s.1 * 5 + s.2.1) (tyLg d s.2.2.1))
def tyNx (pa : Nat) (c : Int32) : Int32 :=
  if pa = 0 then (if c = 44 then 1 else -1) else if pa = 1 then (if c = 58 then 2 else -1) else if pa = 2 then (if c = 120 then 3 else -1)
  else if pa = 3 then (if c = 42 then 4 else if c = 59 then 0 else -1) else (if c = 59 then 0 else -1)
def tyNv (v : Int32) (pa : Nat) (c : Int32) : Int32 := if v = -1 then -1 else tyNx pa c
def tkS (c : Int32) (s : TyS) : Bool × TyS :=
  if 48 ≤ c ∧ c ≤ 57 then tyDg (c - 48) s
  else if tyNv s.2.2.1 s.2.1 c = -1 then (false, s)
  else if tyNv s.2.2.1 s.2.1 c = 0 then tyBg s
  else (true, s.1, (tyNv s.2.2.1 s.2.1 c).toNatClampNeg, -1, s.2.2.2)
theorem tyNx_cases (pa : Nat) (c : Int32) : tyNx pa c = -1 ∨ tyNx pa c = 0 ∨ tyNx pa c = 1 ∨ tyNx pa c = 2 ∨ tyNx pa c = 3 ∨ tyNx pa c = 4 := by
  unfold tyNx
  repeat' split
  all_goals simp
theorem tyNv_nat {v : Int32} {pa : Nat} {c : Int32} (h1 : ¬ tyNv v pa c = -1) : ∃ k, k < 5 ∧ tyNv v pa c = nI k := by
  unfold tyNv at *
  by_cases hv : v = -1
  · rw [if_pos hv] at h1; exact absurd rfl h1
  · rw [if_neg hv] at h1 ⊢
    rcases tyNx_cases pa c with h | h | h | h | h | h
    · exact absurd h h1
    · exact ⟨0, by decide, h⟩
    · exact ⟨1, by decide, h⟩
    · exact ⟨2, by decide, h⟩
    · exact ⟨3, by decide, h⟩
    · exact ⟨4, by decide, h⟩
theorem tkS_ok {c : Int32} {s : TyS} (h1 : s.1 < 8) (h2 : s.2.1 < 5) : (tkS c s).2.1 < 8 ∧ (tkS c s).2.2.1 < 5 := by
  unfold tkS tyDg tyBg
  repeat' split
  all_goals first | exact ⟨h1, h2⟩ | skip
  · rename_i h; exact ⟨h, by show 0 < 5; decide⟩
  · rename_i h3 h4 h5
    obtain ⟨k, hk, ek⟩ := tyNv_nat h4
    exact ⟨h1, by show (tyNv s.2.2.1 s.2.1 c).toNatClampNeg < 5; rw [ek, nI_clamp (by omega)]; exact hk⟩
/-- the scan from the index i: (where it ends, without error, the state) -/
def tyRun (bf : Nat → Int32) : Nat → Nat → TyS → Nat × Bool × TyS
  | 0, i, s => (i, true, s)
  | k + 1, i, s => if (tkS (bf i) s).1 = true then tyRun bf k (i + 1) (tkS (bf i) s).2 else (i, false, (tkS (bf i) s).2)
def tyR (bf : Nat → Int32) (b i : Nat) (s : TyS) : Nat × Bool × TyS := tyRun bf (b - i) i s
theorem tyR_end {bf : Nat → Int32} {b i : Nat} {s : TyS} (h : b ≤ i) : tyR bf b i s = (i, true, s) := by
  unfold tyR
  rw [show b - i = 0 by omega, tyRun]
theorem tyR_go {bf : Nat → Int32} {b i : Nat} {s : TyS} (h : i < b) (hk : (tkS (bf i) s).1 = true) : tyR bf b i s = tyR bf b (i + 1) (tkS (bf i) s).2 := by
  unfold tyR
  rw [show b - i = (b - (i + 1)) + 1 by omega, tyRun, if_pos hk]
theorem tyR_no {bf : Nat → Int32} {b i : Nat} {s : TyS} (h : i < b) (hk : (tkS (bf i) s).1 = false) : tyR bf b i s = (i, false, (tkS (bf i) s).2) := by
  unfold tyR
  rw [show b - i = (b - (i + 1)) + 1 by omega, tyRun, if_neg (by rw [hk]; decide)]
def tyIn (t : Nat → Int32) : TyS := (0, 0, -1, upd t 4 1)
def tyEnd (s : TyS) : Bool := decide (¬ s.2.2.1 = -1 ∧ (s.2.1 = 3 ∨ s.2.1 = 4))
section TKS
variable {x vl : Int32} {r pa pq : Nat} {td : Nat → Int32}
theorem tkS_dg (h : 48 ≤ x ∧ x ≤ 57) : tkS x (r, pa, vl, td) = tyDg (x - 48) (r, pa, vl, td) := by
  unfold tkS
  rw [if_pos h]
theorem tkS_f (h : ¬ (48 ≤ x ∧ x ≤ 57)) (h1 : tyNv vl pa x = -1) : tkS x (r, pa, vl, td) = (false, r, pa, vl, td) := by
  unfold tkS
  dsimp only
  rw [if_neg h, if_pos h1]
theorem tkS_b (h : ¬ (48 ≤ x ∧ x ≤ 57)) (h1 : ¬ tyNv vl pa x = -1) (h2 : tyNv vl pa x = 0) : tkS x (r, pa, vl, td) = tyBg (r, pa, vl, td) := by
  unfold tkS
  dsimp only
  rw [if_neg h, if_neg h1, if_pos h2]
theorem tkS_n (h : ¬ (48 ≤ x ∧ x ≤ 57)) (h1 : ¬ tyNv vl pa x = -1) (h2 : ¬ tyNv vl pa x = 0) (hq : pq < 5) (h3 : tyNv vl pa x = nI pq) : tkS x (r, pa, vl, td) = (true, r, pq, -1, td) := by
  unfold tkS
  dsimp only
  rw [if_neg h, if_neg h1, if_neg h2, h3, nI_clamp (by omega)]
end TKS
