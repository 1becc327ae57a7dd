theorem law_hA {s : State} : ∀ a : Nat, a < s.heap.size → ¬ (fun q : Nat => s.heap.size ≤ q) a := fun _ h => Nat.not_le.mpr h
theorem eq_val {args : Array Value} {s : State} {t : Term} {x : Int32} (h : (Cond.eq t (.int x)).before args s = true) : t.eval args s none [] s = some (.int x) := by
  obtain ⟨y, h1, h2⟩ := Cond.eq_one (show (Cond.eq t (.int x)).holds args s none s [] = true from h)
  have e9 : y = .int x := (Option.some.inj h2).symm
  rw [h1, e9]
theorem bd_gd_0 {P : Nat → Nat → Int32} : bd_gd 0 P := fun i hi => absurd hi (Nat.not_lt_zero i)
theorem law_nw {args : Array Value} {s : State} (hts : ∀ w ∈ lw_tbl, w.before args s = true) : nw_ok s := ⟨va_Nw.of rfl (hts (.methodLinkNest RX0 68 yX4_hasBit RX4) (by decide +kernel)), va_Nw.of rfl (hts (.methodLinkNest RX2 79 yX4_hasBit RX4) (by decide +kernel))⟩
theorem law_nn {args : Array Value} {s : State} (hts : ∀ w ∈ lw_tbl, w.before args s = true) : nn_ok s := ⟨va_Nw.of rfl (hts (.methodLinkNest RX4 9 yX0_init RX4) (by decide +kernel)), va_Nw.of rfl (hts (.methodLinkNest RX4 18 yX1_init RX4) (by decide +kernel)), va_Nw.of rfl (hts (.methodLinkNest RX4 25 yX3_init RX4) (by decide +kernel)), va_Nw.of rfl (hts (.methodLinkNest RX4 32 yX2_init RX4) (by decide +kernel))⟩
theorem law_LEAST {args : Array Value} {s : State} (hts : ∀ w ∈ lw_tbl, w.before args s = true) (hgv : (Jvm.Cond.and given_1 narrow_1).before args s = true) : ∃ t : Nat, va_Z "CornerLabels$Typed" "LEAST" "[I" (.ref t) (fun q : Nat => s.heap.size ≤ q) s s.heap ∧ va_T .int t 5 (fun j => .int (tyLeast j)) (fun q : Nat => s.heap.size ≤ q) s s.heap := by
  have hs := flat_of_before _ hgv
  obtain ⟨t, ht, hT⟩ := va_Tof (tm := .static "CornerLabels$Typed" "LEAST" "[I") (ty := .int) (N := 5) (f := fun j => .int (tyLeast j)) (A := (fun q : Nat => s.heap.size ≤ q)) (by decide) (hs (.arrayOf (.static "CornerLabels$Typed" "LEAST" "[I") .int) (by decide +kernel)) (eq_val (hs (.eq (.length (.static "CornerLabels$Typed" "LEAST" "[I")) (.int 5)) (by decide +kernel))) (fun j hj => by
    rcases (show j = 0 ∨ j = 1 ∨ j = 2 ∨ j = 3 ∨ j = 4 by omega) with rfl | rfl | rfl | rfl | rfl
    · exact eq_val (hs (.eq (.elem (.static "CornerLabels$Typed" "LEAST" "[I") (.int 0)) (.int 0)) (by decide +kernel))
    · exact eq_val (hs (.eq (.elem (.static "CornerLabels$Typed" "LEAST" "[I") (.int 1)) (.int 0)) (by decide +kernel))
    · exact eq_val (hs (.eq (.elem (.static "CornerLabels$Typed" "LEAST" "[I") (.int 2)) (.int 1)) (by decide +kernel))
    · exact eq_val (hs (.eq (.elem (.static "CornerLabels$Typed" "LEAST" "[I") (.int 3)) (.int 1)) (by decide +kernel))
    · exact eq_val (hs (.eq (.elem (.static "CornerLabels$Typed" "LEAST" "[I") (.int 4)) (.int 1)) (by decide +kernel))) law_hA
  exact ⟨t, va_Zof (hts (.laysStatic "CornerLabels$Typed" "LEAST" "[I") (by decide +kernel)) (hts (.initialized "CornerLabels$Typed") (by decide +kernel)) ht law_hA, hT⟩
theorem law_MOST {args : Array Value} {s : State} (hts : ∀ w ∈ lw_tbl, w.before args s = true) (hgv : (Jvm.Cond.and given_1 narrow_1).before args s = true) : ∃ t : Nat, va_Z "CornerLabels$Typed" "MOST" "[I" (.ref t) (fun q : Nat => s.heap.size ≤ q) s s.heap ∧ va_T .int t 5 (fun j => .int (tyMost j)) (fun q : Nat => s.heap.size ≤ q) s s.heap := by
  have hs := flat_of_before _ hgv
  obtain ⟨t, ht, hT⟩ := va_Tof (tm := .static "CornerLabels$Typed" "MOST" "[I") (ty := .int) (N := 5) (f := fun j => .int (tyMost j)) (A := (fun q : Nat => s.heap.size ≤ q)) (by decide) (hs (.arrayOf (.static "CornerLabels$Typed" "MOST" "[I") .int) (by decide +kernel)) (eq_val (hs (.eq (.length (.static "CornerLabels$Typed" "MOST" "[I")) (.int 5)) (by decide +kernel))) (fun j hj => by
    rcases (show j = 0 ∨ j = 1 ∨ j = 2 ∨ j = 3 ∨ j = 4 by omega) with rfl | rfl | rfl | rfl | rfl
    · exact eq_val (hs (.eq (.elem (.static "CornerLabels$Typed" "MOST" "[I") (.int 0)) (.int 59)) (by decide +kernel))
    · exact eq_val (hs (.eq (.elem (.static "CornerLabels$Typed" "MOST" "[I") (.int 1)) (.int 39)) (by decide +kernel))
    · exact eq_val (hs (.eq (.elem (.static "CornerLabels$Typed" "MOST" "[I") (.int 2)) (.int 20)) (by decide +kernel))
    · exact eq_val (hs (.eq (.elem (.static "CornerLabels$Typed" "MOST" "[I") (.int 3)) (.int 9)) (by decide +kernel))
    · exact eq_val (hs (.eq (.elem (.static "CornerLabels$Typed" "MOST" "[I") (.int 4)) (.int 99)) (by decide +kernel))) law_hA
  exact ⟨t, va_Zof (hts (.laysStatic "CornerLabels$Typed" "MOST" "[I") (by decide +kernel)) (hts (.initialized "CornerLabels$Typed") (by decide +kernel)) ht law_hA, hT⟩
theorem law_st {args : Array Value} {s : State} (hts : ∀ w ∈ lw_tbl, w.before args s = true) (hgv : (Jvm.Cond.and given_1 narrow_1).before args s = true) : st_ok (fun q : Nat => s.heap.size ≤ q) s := ⟨law_LEAST hts hgv, law_MOST hts hgv⟩
theorem law_th {args : Array Value} {s : State} (hts : ∀ w ∈ lw_tbl, w.before args s = true) (hgv : (Jvm.Cond.and given_1 narrow_1).before args s = true) : th_ok (fun q : Nat => s.heap.size ≤ q) s := by
  have hs := flat_of_before _ hgv
  refine ⟨vx_Zqof (hts (.laysStatic "java/lang/Throwable" "UNASSIGNED_STACK" "[Ljava/lang/StackTraceElement;") (by decide +kernel)) (hts (.initialized "java/lang/Throwable") (by decide +kernel)) (hs (.isRef (.static "java/lang/Throwable" "UNASSIGNED_STACK" "[Ljava/lang/StackTraceElement;")) (by decide +kernel)) law_hA, vx_Zqof (hts (.laysStatic "java/lang/Throwable" "SUPPRESSED_SENTINEL" "Ljava/util/List;") (by decide +kernel)) (hts (.initialized "java/lang/Throwable") (by decide +kernel)) (hs (.isRef (.static "java/lang/Throwable" "SUPPRESSED_SENTINEL" "Ljava/util/List;")) (by decide +kernel)) law_hA, ⟨va_Nw.of rfl (hts (.castable "java/lang/IllegalArgumentException" "java/lang/IllegalArgumentException") (by decide +kernel)), va_Nw.of rfl (hts (.castable "java/lang/IllegalStateException" "java/lang/IllegalStateException") (by decide +kernel)), va_Nw.of rfl (hts (.castable "java/lang/IndexOutOfBoundsException" "java/lang/IndexOutOfBoundsException") (by decide +kernel)), fun Y hY => ?_⟩, ⟨va_Nc.of (hs (.not (.castable "java/lang/IllegalStateException" "java/lang/IllegalArgumentException")) (by decide +kernel)), va_Nc.of (hs (.not (.castable "java/lang/IllegalArgumentException" "java/lang/IndexOutOfBoundsException")) (by decide +kernel)), va_Nc.of (hs (.not (.castable "java/lang/IllegalStateException" "java/lang/IndexOutOfBoundsException")) (by decide +kernel))⟩, fun q hq => ?_⟩
  · rcases List.mem_cons.mp hY with rfl | hY
    · exact va_Nw.of rfl (hts (.declares (Bundle.initS "java/lang/RuntimeException")) (by decide +kernel))
    rcases List.mem_cons.mp hY with rfl | hY
    · exact va_Nw.of rfl (hts (.declares (Bundle.initS "java/lang/Exception")) (by decide +kernel))
    rcases List.mem_cons.mp hY with rfl | hY
    · exact va_Nw.of rfl (hts (.declares (Bundle.initS "java/lang/Throwable")) (by decide +kernel))
    exact nomatch hY
  · rcases List.mem_cons.mp hq with rfl | hq
    · obtain ⟨a, _, _, _, ha, -⟩ := Cond.exactly_spec (hs (.exactly (.string "CornerLabels" 50) "java/lang/String") (by decide +kernel))
      exact ⟨a, vk_R.of (hts (.stringRef RX4 50 "an argument is out of range") (by decide +kernel)) ha⟩
    rcases List.mem_cons.mp hq with rfl | hq
    · obtain ⟨a, _, _, _, ha, -⟩ := Cond.exactly_spec (hs (.exactly (.string "CornerLabels" 60) "java/lang/String") (by decide +kernel))
      exact ⟨a, vk_R.of (hts (.stringRef RX4 60 "there are 8 points, or one stands there") (by decide +kernel)) ha⟩
    rcases List.mem_cons.mp hq with rfl | hq
    · obtain ⟨a, _, _, _, ha, -⟩ := Cond.exactly_spec (hs (.exactly (.string "CornerLabels" 76) "java/lang/String") (by decide +kernel))
      exact ⟨a, vk_R.of (hts (.stringRef RX4 76 "no such point") (by decide +kernel)) ha⟩
    rcases List.mem_cons.mp hq with rfl | hq
    · obtain ⟨a, _, _, _, ha, -⟩ := Cond.exactly_spec (hs (.exactly (.string "CornerLabels" 87) "java/lang/String") (by decide +kernel))
      exact ⟨a, vk_R.of (hts (.stringRef RX4 87 "weight is out of range") (by decide +kernel)) ha⟩
    rcases List.mem_cons.mp hq with rfl | hq
    · obtain ⟨a, _, _, _, ha, -⟩ := Cond.exactly_spec (hs (.exactly (.string "CornerLabels" 93) "java/lang/String") (by decide +kernel))
      exact ⟨a, vk_R.of (hts (.stringRef RX4 93 "width or height is out of range") (by decide +kernel)) ha⟩
    rcases List.mem_cons.mp hq with rfl | hq
    · obtain ⟨a, _, _, _, ha, -⟩ := Cond.exactly_spec (hs (.exactly (.string "CornerLabels" 106) "java/lang/String") (by decide +kernel))
      exact ⟨a, vk_R.of (hts (.stringRef RX4 106 "corner is out of range") (by decide +kernel)) ha⟩
    rcases List.mem_cons.mp hq with rfl | hq
    · obtain ⟨a, _, _, _, ha, -⟩ := Cond.exactly_spec (hs (.exactly (.string "CornerLabels" 114) "java/lang/String") (by decide +kernel))
      exact ⟨a, vk_R.of (hts (.stringRef RX4 114 "the corner is not open, or the label would clash") (by decide +kernel)) ha⟩
    rcases List.mem_cons.mp hq with rfl | hq
    · obtain ⟨a, _, _, _, ha, -⟩ := Cond.exactly_spec (hs (.exactly (.string "CornerLabels" 132) "java/lang/String") (by decide +kernel))
      exact ⟨a, vk_R.of (hts (.stringRef RX4 132 "the label stands, or there is no room") (by decide +kernel)) ha⟩
    rcases List.mem_cons.mp hq with rfl | hq
    · obtain ⟨a, _, _, _, ha, -⟩ := Cond.exactly_spec (hs (.exactly (.string "CornerLabels" 141) "java/lang/String") (by decide +kernel))
      exact ⟨a, vk_R.of (hts (.stringRef RX4 141 "code is not 33 to 126") (by decide +kernel)) ha⟩
    rcases List.mem_cons.mp hq with rfl | hq
    · obtain ⟨a, _, _, _, ha, -⟩ := Cond.exactly_spec (hs (.exactly (.string "CornerLabels" 147) "java/lang/String") (by decide +kernel))
      exact ⟨a, vk_R.of (hts (.stringRef RX4 147 "the buffer has 60 characters") (by decide +kernel)) ha⟩
    rcases List.mem_cons.mp hq with rfl | hq
    · obtain ⟨a, _, _, _, ha, -⟩ := Cond.exactly_spec (hs (.exactly (.string "CornerLabels" 159) "java/lang/String") (by decide +kernel))
      exact ⟨a, vk_R.of (hts (.stringRef RX4 159 "the buffer does not tell points") (by decide +kernel)) ha⟩
    rcases List.mem_cons.mp hq with rfl | hq
    · obtain ⟨a, _, _, _, ha, -⟩ := Cond.exactly_spec (hs (.exactly (.string "CornerLabels" 167) "java/lang/String") (by decide +kernel))
      exact ⟨a, vk_R.of (hts (.stringRef RX4 167 "there is no saved state") (by decide +kernel)) ha⟩
    rcases List.mem_cons.mp hq with rfl | hq
    · obtain ⟨a, _, _, _, ha, -⟩ := Cond.exactly_spec (hs (.exactly (.string "CornerLabels" 172) "java/lang/String") (by decide +kernel))
      exact ⟨a, vk_R.of (hts (.stringRef RX4 172 "what is not 0 to 8") (by decide +kernel)) ha⟩
    rcases List.mem_cons.mp hq with rfl | hq
    · obtain ⟨a, _, _, _, ha, -⟩ := Cond.exactly_spec (hs (.exactly (.string "CornerLabels" 177) "java/lang/String") (by decide +kernel))
      exact ⟨a, vk_R.of (hts (.stringRef RX4 177 "the points are the same, or a corner is out of range") (by decide +kernel)) ha⟩
    rcases List.mem_cons.mp hq with rfl | hq
    · obtain ⟨a, _, _, _, ha, -⟩ := Cond.exactly_spec (hs (.exactly (.string "CornerLabels" 183) "java/lang/String") (by decide +kernel))
      exact ⟨a, vk_R.of (hts (.stringRef RX4 183 "x or y is out of range") (by decide +kernel)) ha⟩
    exact nomatch hq
