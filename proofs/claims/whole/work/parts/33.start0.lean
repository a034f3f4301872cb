set_option maxRecDepth 100000 in
theorem gKcl {b : Nat} {s : State} (hts : ∀ w ∈ lw_tbl, w.before #[Value.ref b] s = true) : ∀ (k : Nat), ∃ (c : ClassId) (iS : Nat → Nat), ∀ q : vw_C, vwCl[k]? = some q → u_Kn s q.1 q.2.1 q.2.2 c iS := by
  intro k
  by_cases hk : k < 13
  · obtain ⟨q, hq⟩ : ∃ q, vwCl[k]? = some q := ⟨_, List.getElem?_eq_getElem (by exact hk)⟩
    have key : ∃ (c : ClassId) (iS : Nat → Nat), u_Kn s q.1 q.2.1 q.2.2 c iS := by
      rcases (show k = 0 ∨ k = 1 ∨ k = 2 ∨ k = 3 ∨ k = 4 ∨ k = 5 ∨ k = 6 ∨ k = 7 ∨ k = 8 ∨ k = 9 ∨ k = 10 ∨ k = 11 ∨ k = 12 by omega) with rfl | rfl | rfl | rfl | rfl | rfl | rfl | rfl | rfl | rfl | rfl | rfl | rfl
      · cases hq
        exact u_known (C := RX0) (T := TX0) (N := 0) (n := 0) hts (fun w h => (List.mem_filter.mp (inX0 w h)).1) (hts _ (List.mem_filter.mp nw_X0).1)
      · cases hq
        exact u_known (C := RX1) (T := TX1) (N := 0) (n := 0) hts (fun w h => (List.mem_filter.mp (inX1 w h)).1) (hts _ (List.mem_filter.mp nw_X1).1)
      · cases hq
        exact u_known (C := RX2) (T := TX2) (N := 0) (n := 0) hts (fun w h => (List.mem_filter.mp (inX2 w h)).1) (hts _ (List.mem_filter.mp nw_X2).1)
      · cases hq
        exact u_known (C := RX3) (T := TX3) (N := 0) (n := 0) hts (fun w h => (List.mem_filter.mp (inX3 w h)).1) (hts _ (List.mem_filter.mp nw_X3).1)
      · cases hq
        exact u_known (C := RX4) (T := TX4) (N := 3) (n := 3) hts (fun w h => (List.mem_filter.mp (inX4 w h)).1) (hts _ (List.mem_filter.mp nw_X4).1)
      · cases hq
        exact u_known (C := RX5) (T := TX5) (N := 6) (n := 6) hts (fun w h => (List.mem_filter.mp (inX5 w h)).1) (hts _ (List.mem_filter.mp nw_X5).1)
      · cases hq
        exact u_known (C := RX6) (T := TX6) (N := 4) (n := 4) hts (fun w h => (List.mem_filter.mp (inX6 w h)).1) (hts _ (List.mem_filter.mp nw_X6).1)
      · cases hq
        exact u_known (C := RX7) (T := TX7) (N := 18) (n := 18) hts (fun w h => (List.mem_filter.mp (inX7 w h)).1) (hts _ (List.mem_filter.mp nw_X7).1)
      · cases hq
        exact u_known (C := RX8) (T := TX8) (N := 0) (n := 0) hts (fun w h => (List.mem_filter.mp (inX8 w h)).1) (hts _ (List.mem_filter.mp nw_X8).1)
      · cases hq
        exact u_known (C := RX9) (T := TX9) (N := 0) (n := 0) hts (fun w h => (List.mem_filter.mp (inX9 w h)).1) (hts _ (List.mem_filter.mp nw_X9).1)
      · cases hq
        exact u_known (C := RX10) (T := TX10) (N := 0) (n := 0) hts (fun w h => (List.mem_filter.mp (inX10 w h)).1) (hts _ (List.mem_filter.mp nw_X10).1)
      · cases hq
        exact u_known (C := RX11) (T := TX11) (N := 10) (n := 10) hts (fun w h => (List.mem_filter.mp (inX11 w h)).1) (hts _ (List.mem_filter.mp nw_X11).1)
      · cases hq
        exact u_known (C := RX12) (T := TX12) (N := 25) (n := 25) hts (fun w h => (List.mem_filter.mp (inX12 w h)).1) (hts _ (List.mem_filter.mp nw_X12).1)
    obtain ⟨c, iS, h⟩ := key
    refine ⟨c, iS, fun q2 h2 => ?_⟩
    rw [hq] at h2
    cases h2
    exact h
  · refine ⟨0, fun _ => 0, fun q h => ?_⟩
    rw [List.getElem?_eq_none (by show 13 ≤ k; omega)] at h
    cases h
theorem gK_arr {b : Nat} {s : State} (hts : ∀ w ∈ lw_tbl, w.before #[Value.ref b] s = true) : ∃ cI cK cII : ClassId, (ArrOfT s cI .int ∧ va_RA s cI .int) ∧ (ArrOfT s cK (.object "SweptRound$YardKind") ∧ va_RA s cK (.object "SweptRound$YardKind")) ∧ (ArrOfT s cII (.array .int) ∧ va_RA s cII (.array .int)) := by
  obtain ⟨c1, k1, p1, a1, a2, a3⟩ := Cond.arrayClass_spec (hts (.arrayClass .int) (List.mem_filter.mp aw_int).1)
  obtain ⟨p2, c2, k2, b1, b2, b3, b4, b5⟩ := Cond.arrayOver_spec (hts (.arrayOver (.object "SweptRound$YardKind")) (tm 30 (by decide +kernel)))
  obtain ⟨p3, c3, k3, e1, e2, e3, e4⟩ := Cond.arrayOver_specA (hts (.arrayOver (.array .int)) (tm 224 (by decide +kernel)))
  exact ⟨c1, c2, c3, ⟨fun N z => ⟨(fun k h => by cases h), k1, a2, p1, a3⟩, a1⟩, ⟨fun N z => ⟨(fun k h => by cases h), k2, b3, p2, b4⟩, ⟨k2, p2, b3, b4, b1, b5⟩⟩, ⟨fun N z => ⟨(fun k h => by cases h), k3, e2, p3, e3⟩, e4⟩⟩
set_option maxRecDepth 100000 in
set_option maxHeartbeats 4000000 in
theorem gK_start {b : Nat} {s : State} (hts : ∀ w ∈ lw_tbl, w.before #[Value.ref b] s = true) (hgv : (Jvm.Cond.and given_1 narrow_1).before #[Value.ref b] s = true) : ∃ g : GP, g.2.2.1 = s.heap.size ∧ gK g s := by
  have hs := flat_of_before _ hgv
  have hA : ∀ a : Nat, a < s.heap.size → ¬ (fun q : Nat => s.heap.size ≤ q) a := fun a h q => by
    have q2 : s.heap.size ≤ a := q
    omega
  obtain ⟨t, ht, hT⟩ := va_Tof (tm := .static "SweptRound" "KIND_ABOVE" "[I") (ty := .int) (N := 7) (f := gKab) (A := fun q => s.heap.size ≤ q) (by decide) (hs (.arrayOf (.static "SweptRound" "KIND_ABOVE" "[I") .int) (by decide +kernel)) (va_eqt (hs (.eq (.length (.static "SweptRound" "KIND_ABOVE" "[I")) (.int 7)) (by decide +kernel))) (fun j hj => by
    rcases (show j = 0 ∨ j = 1 ∨ j = 2 ∨ j = 3 ∨ j = 4 ∨ j = 5 ∨ j = 6 by omega) with rfl | rfl | rfl | rfl | rfl | rfl | rfl
    · exact va_eqt (hs (Cond.eq (.elem (.static "SweptRound" "KIND_ABOVE" "[I") (.int 0)) (.int (-1))) (by decide +kernel))
    · exact va_eqt (hs (Cond.eq (.elem (.static "SweptRound" "KIND_ABOVE" "[I") (.int 1)) (.int (0))) (by decide +kernel))
    · exact va_eqt (hs (Cond.eq (.elem (.static "SweptRound" "KIND_ABOVE" "[I") (.int 2)) (.int (0))) (by decide +kernel))
    · exact va_eqt (hs (Cond.eq (.elem (.static "SweptRound" "KIND_ABOVE" "[I") (.int 3)) (.int (0))) (by decide +kernel))
    · exact va_eqt (hs (Cond.eq (.elem (.static "SweptRound" "KIND_ABOVE" "[I") (.int 4)) (.int (1))) (by decide +kernel))
    · exact va_eqt (hs (Cond.eq (.elem (.static "SweptRound" "KIND_ABOVE" "[I") (.int 5)) (.int (2))) (by decide +kernel))
    · exact va_eqt (hs (Cond.eq (.elem (.static "SweptRound" "KIND_ABOVE" "[I") (.int 6)) (.int (3))) (by decide +kernel))) hA
  have hZ := va_Zref (hts _ (tm 399 (by decide +kernel) : Cond.laysStatic "SweptRound" "KIND_ABOVE" "[I" ∈ lw_tbl)) (hts _ (tm 1 (by decide +kernel) : Cond.initialized "SweptRound" ∈ lw_tbl)) ht hA
  have hC := va_Zof (hts _ (tm 470 (by decide +kernel) : Cond.laysStatic "java/lang/String" "COMPACT_STRINGS" "Z" ∈ lw_tbl)) (hts _ (tm 16 (by decide +kernel) : Cond.initialized "java/lang/String" ∈ lw_tbl)) (va_eqi (hs (.eq (.static "java/lang/String" "COMPACT_STRINGS" "Z") (.int 1)) (by decide +kernel))) hA
  obtain ⟨adK, adV, hV, hE⟩ := vk_Sof (N := 2) (tm := fun i => if i = 0 then .string "SweptRound$Reader" 81 else .string "SweptRound$Reader" 83) (len := [3, 3]) (byt := [[121, 100, 120], [115, 100, 101]]) (A := fun q => s.heap.size ≤ q) (args := #[Value.ref b]) (s := s)
    (fun i hi => by rcases (show i = 0 ∨ i = 1 by omega) with rfl | rfl <;> decide)
    (fun i hi => by
      rcases (show i = 0 ∨ i = 1 by omega) with rfl | rfl
      · exact hs (.exactly (.string "SweptRound$Reader" 81) "java/lang/String") (by decide +kernel)
      · exact hs (.exactly (.string "SweptRound$Reader" 83) "java/lang/String") (by decide +kernel))
    (fun i hi => by
      rcases (show i = 0 ∨ i = 1 by omega) with rfl | rfl
      · exact hs (.eq (.field (.string "SweptRound$Reader" 81) "java/lang/String" "coder" "B") (.int 0)) (by decide +kernel)
      · exact hs (.eq (.field (.string "SweptRound$Reader" 83) "java/lang/String" "coder" "B") (.int 0)) (by decide +kernel))
    (fun i hi => by
      rcases (show i = 0 ∨ i = 1 by omega) with rfl | rfl
      · exact hs (.arrayOf (.field (.string "SweptRound$Reader" 81) "java/lang/String" "value" "[B") .byte) (by decide +kernel)
      · exact hs (.arrayOf (.field (.string "SweptRound$Reader" 83) "java/lang/String" "value" "[B") .byte) (by decide +kernel))
    (fun i hi => by
      rcases (show i = 0 ∨ i = 1 by omega) with rfl | rfl
      · exact hs (.eq (.length (.field (.string "SweptRound$Reader" 81) "java/lang/String" "value" "[B")) (.int 3)) (by decide +kernel)
      · exact hs (.eq (.length (.field (.string "SweptRound$Reader" 83) "java/lang/String" "value" "[B")) (.int 3)) (by decide +kernel))
    (fun i hi j hj => by
      rcases (show i = 0 ∨ i = 1 by omega) with rfl | rfl
      · have hj3 : j < 3 := hj
        rcases (show j = 0 ∨ j = 1 ∨ j = 2 by omega) with rfl | rfl | rfl
        · exact hs (Cond.eq (.elem (.field (.string "SweptRound$Reader" 81) "java/lang/String" "value" "[B") (.int 0)) (.int (121))) (by decide +kernel)
        · exact hs (Cond.eq (.elem (.field (.string "SweptRound$Reader" 81) "java/lang/String" "value" "[B") (.int 1)) (.int (100))) (by decide +kernel)
        · exact hs (Cond.eq (.elem (.field (.string "SweptRound$Reader" 81) "java/lang/String" "value" "[B") (.int 2)) (.int (120))) (by decide +kernel)
      · have hj3 : j < 3 := hj
        rcases (show j = 0 ∨ j = 1 ∨ j = 2 by omega) with rfl | rfl | rfl
        · exact hs (Cond.eq (.elem (.field (.string "SweptRound$Reader" 83) "java/lang/String" "value" "[B") (.int 0)) (.int (115))) (by decide +kernel)
        · exact hs (Cond.eq (.elem (.field (.string "SweptRound$Reader" 83) "java/lang/String" "value" "[B") (.int 1)) (.int (100))) (by decide +kernel)
        · exact hs (Cond.eq (.elem (.field (.string "SweptRound$Reader" 83) "java/lang/String" "value" "[B") (.int 2)) (.int (101))) (by decide +kernel))
    (fun i j hi hj hij => by
      rcases (show i = 0 ∨ i = 1 by omega) with rfl | rfl <;> rcases (show j = 0 ∨ j = 1 by omega) with rfl | rfl
      · exact absurd rfl hij
      · exact Or.inl (hs (.not (.eq (.string "SweptRound$Reader" 81) (.string "SweptRound$Reader" 83))) (by decide +kernel))
      · exact Or.inr (hs (.not (.eq (.string "SweptRound$Reader" 81) (.string "SweptRound$Reader" 83))) (by decide +kernel))
      · exact absurd rfl hij) hA
  obtain ⟨dC, hdC⟩ := Classical.axiomOfChoice (gKcl hts)
  obtain ⟨dI, hdI⟩ := Classical.axiomOfChoice hdC
  obtain ⟨cI, cK, cII, a1, a2, a3⟩ := gK_arr hts
  have e0 : (if (0 : Nat) = 0 then (Term.string "SweptRound$Reader" 81) else .string "SweptRound$Reader" 83).eval #[Value.ref b] s none [] s = some (.ref (adK 0)) := hE 0 (by decide)
  have e1 : (if (1 : Nat) = 0 then (Term.string "SweptRound$Reader" 81) else .string "SweptRound$Reader" 83).eval #[Value.ref b] s none [] s = some (.ref (adK 1)) := hE 1 (by decide)
  refine ⟨((dC, dI), fun k => if k = 0 then cI else if k = 1 then cK else cII, s.heap.size, fun j => if j = 0 then t else if j = 1 then adK 0 else if j = 2 then adK 1 else if j = 3 then adV 0 else adV 1), rfl, ⟨hdI, ?_⟩, Nat.le_refl _, ?_, ?_, ⟨?_, ?_, ?_, hC⟩, hZ, hT⟩
  · intro k q hq
    rcases (show k = 0 ∨ k = 1 ∨ k = 2 ∨ 3 ≤ k by omega) with rfl | rfl | rfl | h3
    · cases hq; exact a1
    · cases hq; exact a2
    · cases hq; exact a3
    · have h4 : ([(cI, FieldType.int), (cK, .object "SweptRound$YardKind"), (cII, .array .int)] : List (ClassId × FieldType))[k]? = some q := hq
      rw [List.getElem?_eq_none (by show 3 ≤ k; exact h3)] at h4
      cases h4
  · intro w hw hn
    have h1 := hts w hw
    refine va_Nw.of ?_ h1
    cases w <;> first | rfl | cases hn
  · exact va_AO.of (hts (.arrayOver (.object "SweptRound$YardKind")) (tm 30 (by decide +kernel)))
  · exact vk_R.of (hts (.stringRef "SweptRound$Reader" 81 "ydx") (tm 455 (by decide +kernel))) e0
  · exact vk_R.of (hts (.stringRef "SweptRound$Reader" 83 "sde") (tm 456 (by decide +kernel))) e1
  · refine ⟨fun i hi => ?_, fun i j hi hj h => ?_⟩
    · rcases (show i = 0 ∨ i = 1 by omega) with rfl | rfl
      · exact hV.1 0 (by decide)
      · exact hV.1 1 (by decide)
    · rcases (show i = 0 ∨ i = 1 by omega) with rfl | rfl <;> rcases (show j = 0 ∨ j = 1 by omega) with rfl | rfl
      · rfl
      · exact hV.2 0 1 (by decide) (by decide) h
      · exact hV.2 1 0 (by decide) (by decide) h
      · rfl
theorem ExI_start {b : Nat} {s : State} (hts : ∀ w ∈ lw_tbl, w.before #[Value.ref b] s = true) : ExI s := by
  refine ⟨hts (.arrayOver (.array .int)) (tm 224 (by decide +kernel)), fun C hC => va_Nw.of rfl (hts _ ?_)⟩
  simp only [List.mem_cons, List.not_mem_nil, or_false] at hC
  rcases hC with rfl | rfl | rfl | rfl | rfl | rfl
  · exact tm 1306 (by decide +kernel)
  · exact tm 1307 (by decide +kernel)
  · exact tm 1308 (by decide +kernel)
  · exact tm 1309 (by decide +kernel)
  · exact tm 1310 (by decide +kernel)
  · exact tm 1311 (by decide +kernel)
