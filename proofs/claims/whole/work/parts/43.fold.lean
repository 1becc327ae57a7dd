/-- what the class has found, beside what the plans tell -/
def Rel (n : Nat) (f0 : Nat → Int32) (z : Int × Option (Nat → Nat)) (st : St3) : Prop := st.1.toInt = z.1 ∧ match z.2 with
  | none => ∀ j, j < n → st.2.1 j = f0 j
  | some u => ∀ j, j < n → st.2.1 j = cd (u j)
section FOLD
variable {n : Nat} {P : Nat → Nat → Int32} {A : Nat → Nat → Bool} {aO aC aA aM aG aT aH : Nat → Int32} {kS : Int32} {f0 : Nat → Int32}
theorem sc_add (h : skH n P A aO aC aA aM aG aT aH kS) {i k : Nat} {t : Nat → Nat} {sc : Int32} (hi : i < n) (hk : k < 4) (hs : sc.toInt = scS (gG aG) i t) : (sc + aG (i * 4 + k)).toInt = scS (gG aG) (i + 1) (updN t i k) := by
  have h1 := scS_rng h t i (by omega)
  have h2 := h.2.2.2.2.2.2.1 i hi k hk
  have h8 := h.1
  rw [ti_add (by omega) (by omega), scS, updN_eq, hs, scS_congr i (updN t i k) t (fun j hj => updN_ne (by omega))]
  unfold gG
  rw [if_pos hk]
theorem skK_rel (h : skH n P A aO aC aA aM aG aT aH kS) {t : Nat → Nat} {sc : Int32} {z : Int × Option (Nat → Nat)} {st : St3} (hs : sc.toInt = scS (gG aG) n t) (hr : Rel n f0 z st) (ht : ∀ j, j < n → st.2.2 j = cd (t j)) : Rel n f0 (fB (scS (gG aG) n) z t) (skK sc st) := by
  obtain ⟨r1, r2⟩ := hr
  have h8 := h.1
  have hiff : st.1 < sc ↔ z.1 < scS (gG aG) n t := by rw [Int32.lt_iff_toInt_lt, r1, hs]
  unfold fB skK
  by_cases hlt : z.1 < scS (gG aG) n t
  · rw [if_pos hlt, if_pos (hiff.mpr hlt), if_pos (hiff.mpr hlt)]
    refine ⟨hs, fun j hj => ?_⟩
    show va_cpy st.2.2 st.2.1 0 0 8 j = cd (t j)
    unfold va_cpy
    rw [if_pos (by omega), show 0 + (j - 0) = j by omega]
    exact ht j hj
  · rw [if_neg hlt, if_neg (fun q => hlt (hiff.mp q)), if_neg (fun q => hlt (hiff.mp q))]
    exact ⟨r1, r2⟩
theorem upd_at (f : Nat → Int32) (i : Nat) (x : Int32) : upd f i x i = x := by unfold upd; rw [if_pos rfl]
theorem upd_ne (f : Nat → Int32) {i j : Nat} (x : Int32) (h : ¬ j = i) : upd f i x j = f j := by unfold upd; rw [if_neg h]
theorem tr_upd {t : Nat → Nat} {tr : Nat → Int32} {i c : Nat} (h : ∀ j, j < i → tr j = cd (t j)) : ∀ j, j < i + 1 → upd tr i (cd c) j = cd (updN t i c j) := by
  intro j hj
  by_cases hji : j = i
  · subst hji; rw [upd_at, updN_eq]
  · rw [upd_ne _ _ hji, updN_ne hji]
    exact h j (by omega)
theorem skM_fold (h : skH n P A aO aC aA aM aG aT aH kS) : ∀ (d i : Nat), i + d = n → ∀ (blk sc : Int32) (st : St3) (t : Nat → Nat) (z : Int × Option (Nat → Nat)), Rb n A P i t blk → (∀ j, j < i → t j < 5) → sc.toInt = scS (gG aG) i t → Rel n f0 z st → (∀ j, j < i → st.2.2 j = cd (t j)) →
    Rel n f0 ((cps A P d i t).foldl (fB (scS (gG aG) n)) z) (skM aC aA aM aG aT aH kS d i blk sc st) ∧ ∀ j, j < i → (skM aC aA aM aG aT aH kS d i blk sc st).2.2 j = cd (t j) := by
  intro d
  induction d with
  | zero =>
    intro i hid blk sc st t z hb ht hs hr htr
    have hin : i = n := by omega
    subst hin
    rw [skM, cps, List.foldl_cons, List.foldl_nil]
    exact ⟨skK_rel h hs hr htr, htr⟩
  | succ d ih =>
    intro i hid blk sc st t z hb ht hs hr htr
    have h8 := h.1
    have hi : i < n := by omega
    rw [skM]
    obtain ⟨s1, s2⟩ := scS_rng h t i (by omega)
    obtain ⟨p1, p2⟩ := topH_rng h (n - i) i (by omega)
    have hTH : aH i = topH (gMG aA aG) n i := h.2.2.2.2.2.2.2.2.2 i (by omega)
    by_cases hp : sc + aH i ≤ st.1
    · rw [if_pos hp]
      rw [Int32.le_iff_toInt_le, hTH, ti_add (by omega) (by omega), hr.1, hs] at hp
      rw [fB_none _ _ (fun u hu => ?_)]
      · exact ⟨hr, htr⟩
      · obtain ⟨q1, q2⟩ := cps_pre (d + 1) i t u hu
        have h5 := topH_hope h (u := u) (n - i) i (by omega) (fun j h1 h2 => q2 j h1 (by omega))
        rw [scS_congr i u t q1] at h5
        omega
    · rw [if_neg hp, cpk_all]
      have hT : aT i = gMG aA aG i := h.2.2.2.2.2.2.2.2.1 i hi
      have loop : ∀ (r k : Nat), k + r = 4 → ∀ (z : Int × Option (Nat → Nat)) (st : St3), Rel n f0 z st → (∀ j, j < i → st.2.2 j = cd (t j)) →
          Rel n f0 ((cpk A P d i t (r + 1) k).foldl (fB (scS (gG aG) n)) z) (skLw (fun b s9 z => skM aC aA aM aG aT aH kS d (i + 1) b s9 z) aC aG kS (aT i) i (skFr aA i blk) blk sc (aM i) k st) ∧ ∀ j, j < i → (skLw (fun b s9 z => skM aC aA aM aG aT aH kS d (i + 1) b s9 z) aC aG kS (aT i) i (skFr aA i blk) blk sc (aM i) k st).2.2 j = cd (t j) := by
        intro r
        induction r with
        | zero =>
          intro k hk z st hr htr
          have hk4 : k = 4 := by omega
          subst hk4
          have hA4 := h.2.2.2.2.2.1 i hi
          rw [skLw_end (Nat.le_refl 4), cpk, cpk, List.append_nil]
          by_cases hm : aM i = 0
          · have hf : feB A P i 4 t = false := by
              rw [← Bool.not_eq_true, feB_iff, hA4]
              simp [hm]
            rw [if_pos hm, hf, if_neg (by decide), List.foldl_nil]
            exact ⟨hr, htr⟩
          · have hf : feB A P i 4 t = true := by
              rw [feB_iff, hA4]
              simp [hm]
            rw [if_neg hm, hf, if_pos rfl]
            have hs2 : sc.toInt = scS (gG aG) (i + 1) (updN t i 4) := by
              rw [scS, updN_eq, scS_congr i (updN t i 4) t (fun j hj => updN_ne (by omega)), hs]
              unfold gG
              rw [if_neg (by omega)]
              omega
            obtain ⟨a1, a2⟩ := ih (i + 1) (by omega) blk sc (st.1, st.2.1, upd st.2.2 i (-1)) (updN t i 4) z (Rb_4 hb) (fun j hj => by
              by_cases hji : j = i
              · subst hji; rw [updN_eq]; omega
              · rw [updN_ne hji]; exact ht j (by omega)) hs2 hr (tr_upd (c := 4) htr)
            exact ⟨a1, fun j hj => by rw [a2 j (by omega), updN_ne (by omega)]⟩
        | succ r ihr =>
          intro k hk z st hr htr
          have hk4 : k < 4 := by omega
          rw [skLw_step hk4, fr_fe h hi hk4 hb, cpk]
          cases hf : feB A P i k t with
          | false =>
            rw [if_neg (by decide), if_neg (by decide), List.nil_append]
            exact ihr (k + 1) (by omega) z st hr htr
          | true =>
            rw [if_pos rfl, if_pos rfl]
            have ha := (feB_iff.mp hf).1
            obtain ⟨b1, b2⟩ := Rb_k h hi hk4 ha hb
            have hcd : cd k = nI k := by unfold cd; rw [if_pos hk4]
            obtain ⟨a1, a2⟩ := ih (i + 1) (by omega) (blk ||| (aC (i * 4 + k) &&& kS)) (sc + aG (i * 4 + k)) (st.1, st.2.1, upd st.2.2 i (nI k)) (updN t i k) z b1 (fun j hj => by
              by_cases hji : j = i
              · subst hji; rw [updN_eq]; omega
              · rw [updN_ne hji]; exact ht j (by omega)) (sc_add h hi hk4 hs) hr (by rw [← hcd]; exact tr_upd htr)
            have a3 : ∀ j, j < i → (skM aC aA aM aG aT aH kS d (i + 1) (blk ||| (aC (i * 4 + k) &&& kS)) (sc + aG (i * 4 + k)) (st.1, st.2.1, upd st.2.2 i (nI k))).2.2 j = cd (t j) := fun j hj => by rw [a2 j (by omega), updN_ne (by omega)]
            by_cases hq : blk ||| (aC (i * 4 + k) &&& kS) = blk ∧ aG (i * 4 + k) = aT i
            · rw [if_pos hq, fB_dom (fun u hu => ?_)]
              · exact ⟨a1, a3⟩
              · obtain ⟨c, c1, c2, c3, c4⟩ := (cpk_mem (r + 1) (k + 1)).mp hu
                refine ⟨updN u i k, ?_, ?_⟩
                · have e : updN t i k = updN (updN t i c) i k := by
                    funext q
                    unfold updN
                    by_cases h1 : q = i
                    · rw [if_pos h1, if_pos h1]
                    · rw [if_neg h1, if_neg h1, if_neg h1]
                  rw [e]
                  exact cps_swap (n := n) (t := t) hk4 (fun j h1 h2 q hq1 haj hcl => (hb j (by omega) h2 q hq1 haj).mp (b2 hq.1 j h1 h2 q hq1 haj hcl)) d (i + 1) (updN t i c) u (by omega) (by omega) (fun q hq => updN_ne (by omega)) c4
                · refine scS_upd ?_ n
                  have hui : u i = c := by rw [(cps_pre d (i + 1) _ u c4).1 i (by omega), updN_eq]
                  rw [hui]
                  obtain ⟨g1, g2, g3⟩ := gMG_ge h hi
                  have hgk : gG aG i k = (gMG aA aG i).toInt := by
                    unfold gG
                    rw [if_pos hk4, hq.2, hT]
                  rw [hgk]
                  unfold gG
                  split
                  · rename_i h9; exact g3 c h9 (feB_iff.mp c3).1
                  · exact g1
            · rw [if_neg hq, List.foldl_append]
              exact ihr (k + 1) (by omega) _ _ a1 a3
      exact loop 4 0 rfl z st hr htr
end FOLD
