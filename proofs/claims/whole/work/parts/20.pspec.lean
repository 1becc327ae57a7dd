/-! THE PLANS, as the class goes through them (mechanical words) -/
def gMGF (A Gn : Nat → Int32) (i k : Nat) (a : Int32) : Int32 := if hB (A i) (nI k) then iMax a (Gn (i * 4 + k)) else a
def gMG (A Gn : Nat → Int32) (i : Nat) : Int32 := gF 4 (gMGF A Gn i) 0 0
def gLcI (O : Nat → Int32) (P : Nat → Nat → Int32) (i : Nat) (c : Int32) (j k : Nat) (m : Int32) : Int32 := if hB (O j) (nI k) && decide (0 < gSh P i c j (nI k)) then m ||| (1 <<< (nI (j * 4 + k) &&& 31)) else m
def gLcO (O : Nat → Int32) (P : Nat → Nat → Int32) (i : Nat) (c : Int32) (j : Nat) (m : Int32) : Int32 := gF 4 (gLcI O P i c j) 0 m
def gLc (n : Nat) (O : Nat → Int32) (P : Nat → Nat → Int32) (i : Nat) (c : Int32) : Int32 := if hB (O i) c then gF n (gLcO O P i c) (i + 1) 0 else 0
def gPMF (C : Nat → Int32) (i k : Nat) (m : Int32) : Int32 := m ||| C (i * 4 + k)
def gPM (C : Nat → Int32) (i : Nat) : Int32 := gF 4 (gPMF C i) 0 0
def gPJ (M : Int32) (j : Nat) (a : Int32) : Int32 := if ((M.toUInt32 >>> ((nI (j * 4)).toUInt32 &&& Int32.toUInt32 31)).toInt32 &&& 15) = 0 then a else a + 1
def gCPF (n : Nat) (C : Nat → Int32) (i : Nat) (a : Int32) : Int32 := gF n (gPJ (gPM C i)) (i + 1) a
def gCP (n : Nat) (C : Nat → Int32) : Int32 := gF n (gCPF n C) 0 0
abbrev St3 : Type := Int32 × (Nat → Int32) × (Nat → Int32)
def skK (sc : Int32) (st : St3) : St3 := (if st.1 < sc then sc else st.1, if st.1 < sc then va_cpy st.2.2 st.2.1 0 0 8 else st.2.1, st.2.2)
def skL (f : Int32 → Int32 → St3 → St3) (aC aG : Nat → Int32) (kS mg : Int32) (i : Nat) (free blk sc : Int32) (md : Int32) : Nat → Nat → St3 → St3
  | 0, _, st => if md = 0 then st else f blk sc (st.1, st.2.1, upd st.2.2 i (-1))
  | r + 1, k, st => if hB free (nI k) then
      (if blk ||| (aC (i * 4 + k) &&& kS) = blk ∧ aG (i * 4 + k) = mg then f (blk ||| (aC (i * 4 + k) &&& kS)) (sc + aG (i * 4 + k)) (st.1, st.2.1, upd st.2.2 i (nI k))
       else skL f aC aG kS mg i free blk sc md r (k + 1) (f (blk ||| (aC (i * 4 + k) &&& kS)) (sc + aG (i * 4 + k)) (st.1, st.2.1, upd st.2.2 i (nI k))))
    else skL f aC aG kS mg i free blk sc md r (k + 1) st
def skLw (f : Int32 → Int32 → St3 → St3) (aC aG : Nat → Int32) (kS mg : Int32) (i : Nat) (free blk sc : Int32) (md : Int32) (k : Nat) (st : St3) : St3 := skL f aC aG kS mg i free blk sc md (4 - k) k st
theorem skLw_end {f : Int32 → Int32 → St3 → St3} {aC aG : Nat → Int32} {kS mg : Int32} {i : Nat} {free blk sc : Int32} {md : Int32} {k : Nat} {st : St3} (h : 4 ≤ k) : skLw f aC aG kS mg i free blk sc md k st = if md = 0 then st else f blk sc (st.1, st.2.1, upd st.2.2 i (-1)) := by
  unfold skLw
  rw [show 4 - k = 0 by omega, skL]
theorem skLw_step {f : Int32 → Int32 → St3 → St3} {aC aG : Nat → Int32} {kS mg : Int32} {i : Nat} {free blk sc : Int32} {md : Int32} {k : Nat} {st : St3} (h : k < 4) : skLw f aC aG kS mg i free blk sc md k st = if hB free (nI k) then
      (if blk ||| (aC (i * 4 + k) &&& kS) = blk ∧ aG (i * 4 + k) = mg then f (blk ||| (aC (i * 4 + k) &&& kS)) (sc + aG (i * 4 + k)) (st.1, st.2.1, upd st.2.2 i (nI k))
       else skLw f aC aG kS mg i free blk sc md (k + 1) (f (blk ||| (aC (i * 4 + k) &&& kS)) (sc + aG (i * 4 + k)) (st.1, st.2.1, upd st.2.2 i (nI k))))
    else skLw f aC aG kS mg i free blk sc md (k + 1) st := by
  unfold skLw
  rw [show 4 - k = (4 - (k + 1)) + 1 by omega, skL]
def skFr (aA : Nat → Int32) (i : Nat) (blk : Int32) : Int32 := aA i &&& ((blk.toUInt32 >>> ((nI (i * 4)).toUInt32 &&& Int32.toUInt32 31)).toInt32 ^^^ (-1))
def skM (aC aA aM aG aT aH : Nat → Int32) (kS : Int32) : Nat → Nat → Int32 → Int32 → St3 → St3
  | 0, _, _, sc, st => skK sc st
  | d + 1, i, blk, sc, st => if sc + aH i ≤ st.1 then st else skLw (fun b s9 z => skM aC aA aM aG aT aH kS d (i + 1) b s9 z) aC aG kS (aT i) i (skFr aA i blk) blk sc (aM i) 0 st
/-- tally -/
def tlF (f : Int32 → Int32) (aC : Nat → Int32) (i : Nat) (free blk : Int32) (k : Nat) (a : Int32 × Int32) : Int32 × Int32 :=
  if hB free (nI k) then (if blk ||| aC (i * 4 + k) = blk then (a.1, a.2 + 1) else (a.1 + f (blk ||| aC (i * 4 + k)), a.2)) else a
def tlL (f : Int32 → Int32) (aC : Nat → Int32) (i : Nat) (free blk : Int32) : Nat → Nat → Int32 × Int32 → Int32 × Int32
  | 0, _, a => a
  | r + 1, k, a => tlL f aC i free blk r (k + 1) (tlF f aC i free blk k a)
def tlW (f : Int32 → Int32) (aC : Nat → Int32) (i : Nat) (free blk : Int32) (k : Nat) (a : Int32 × Int32) : Int32 × Int32 := tlL f aC i free blk (4 - k) k a
theorem tlW_end {f : Int32 → Int32} {aC : Nat → Int32} {i : Nat} {free blk : Int32} {k : Nat} {a : Int32 × Int32} (h : 4 ≤ k) : tlW f aC i free blk k a = a := by
  unfold tlW
  rw [show 4 - k = 0 by omega, tlL]
theorem tlW_step {f : Int32 → Int32} {aC : Nat → Int32} {i : Nat} {free blk : Int32} {k : Nat} {a : Int32 × Int32} (h : k < 4) : tlW f aC i free blk k a = tlW f aC i free blk (k + 1) (tlF f aC i free blk k a) := by
  unfold tlW
  rw [show 4 - k = (4 - (k + 1)) + 1 by omega, tlL]
def tlE (f : Int32 → Int32) (blk : Int32) (a : Int32 × Int32) : Int32 := if 0 < a.2 then a.1 + a.2 * f blk else a.1
def tlM (aO aC : Nat → Int32) : Nat → Nat → Int32 → Int32
  | 0, _, _ => 1
  | d + 1, i, blk => if aO i = 0 then tlM aO aC d (i + 1) blk else tlE (fun b => tlM aO aC d (i + 1) b) blk (tlW (fun b => tlM aO aC d (i + 1) b) aC i (skFr aO i blk) blk 0 (0, 0))
