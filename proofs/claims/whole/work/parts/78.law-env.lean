theorem E_mem {s : State} {b : Nat} (hgv : (Jvm.Cond.and given_1 narrow_1).before #[Value.ref b] s = true) {c : Cond} (h : c ∈ flatC (Jvm.Cond.and given_1 narrow_1)) : c.before #[Value.ref b] s = true := flat_of_before _ hgv c h
set_option maxRecDepth 20000 in
theorem E_a0 : Cond.arrayOf (.static "StoneRiver$Valley" "ROW_STEP" "[I") .int ∈ flatC (Jvm.Cond.and given_1 narrow_1) := by decide +kernel
set_option maxRecDepth 20000 in
theorem E_l0 : Cond.eq (.length (.static "StoneRiver$Valley" "ROW_STEP" "[I")) (.int (Int32.ofNat 8)) ∈ flatC (Jvm.Cond.and given_1 narrow_1) := by decide +kernel
set_option maxRecDepth 20000 in
theorem E_e0 : ∀ j, j < 8 → Cond.eq (.elem (.static "StoneRiver$Valley" "ROW_STEP" "[I") (.int (Int32.ofNat j))) (.int (tb0 j)) ∈ flatC (Jvm.Cond.and given_1 narrow_1) := by decide +kernel
set_option maxRecDepth 20000 in
theorem E_y0 : Cond.laysStatic "StoneRiver$Valley" "ROW_STEP" "[I" ∈ lw_tbl ∧ Cond.initialized "StoneRiver$Valley" ∈ lw_tbl := by decide +kernel
set_option maxRecDepth 20000 in
theorem E_a1 : Cond.arrayOf (.static "StoneRiver$Valley" "COLUMN_STEP" "[I") .int ∈ flatC (Jvm.Cond.and given_1 narrow_1) := by decide +kernel
set_option maxRecDepth 20000 in
theorem E_l1 : Cond.eq (.length (.static "StoneRiver$Valley" "COLUMN_STEP" "[I")) (.int (Int32.ofNat 8)) ∈ flatC (Jvm.Cond.and given_1 narrow_1) := by decide +kernel
set_option maxRecDepth 20000 in
theorem E_e1 : ∀ j, j < 8 → Cond.eq (.elem (.static "StoneRiver$Valley" "COLUMN_STEP" "[I") (.int (Int32.ofNat j))) (.int (tb1 j)) ∈ flatC (Jvm.Cond.and given_1 narrow_1) := by decide +kernel
set_option maxRecDepth 20000 in
theorem E_y1 : Cond.laysStatic "StoneRiver$Valley" "COLUMN_STEP" "[I" ∈ lw_tbl ∧ Cond.initialized "StoneRiver$Valley" ∈ lw_tbl := by decide +kernel
set_option maxRecDepth 20000 in
theorem E_a2 : Cond.arrayOf (.static "StoneRiver$Found" "LEAST_NUMBERS" "[I") .int ∈ flatC (Jvm.Cond.and given_1 narrow_1) := by decide +kernel
set_option maxRecDepth 20000 in
theorem E_l2 : Cond.eq (.length (.static "StoneRiver$Found" "LEAST_NUMBERS" "[I")) (.int (Int32.ofNat 6)) ∈ flatC (Jvm.Cond.and given_1 narrow_1) := by decide +kernel
set_option maxRecDepth 20000 in
theorem E_e2 : ∀ j, j < 6 → Cond.eq (.elem (.static "StoneRiver$Found" "LEAST_NUMBERS" "[I") (.int (Int32.ofNat j))) (.int (tb2 j)) ∈ flatC (Jvm.Cond.and given_1 narrow_1) := by decide +kernel
set_option maxRecDepth 20000 in
theorem E_y2 : Cond.laysStatic "StoneRiver$Found" "LEAST_NUMBERS" "[I" ∈ lw_tbl ∧ Cond.initialized "StoneRiver$Found" ∈ lw_tbl := by decide +kernel
set_option maxRecDepth 20000 in
theorem E_a3 : Cond.arrayOf (.static "StoneRiver$Found" "MOST_NUMBERS" "[I") .int ∈ flatC (Jvm.Cond.and given_1 narrow_1) := by decide +kernel
set_option maxRecDepth 20000 in
theorem E_l3 : Cond.eq (.length (.static "StoneRiver$Found" "MOST_NUMBERS" "[I")) (.int (Int32.ofNat 6)) ∈ flatC (Jvm.Cond.and given_1 narrow_1) := by decide +kernel
set_option maxRecDepth 20000 in
theorem E_e3 : ∀ j, j < 6 → Cond.eq (.elem (.static "StoneRiver$Found" "MOST_NUMBERS" "[I") (.int (Int32.ofNat j))) (.int (tb3 j)) ∈ flatC (Jvm.Cond.and given_1 narrow_1) := by decide +kernel
set_option maxRecDepth 20000 in
theorem E_y3 : Cond.laysStatic "StoneRiver$Found" "MOST_NUMBERS" "[I" ∈ lw_tbl ∧ Cond.initialized "StoneRiver$Found" ∈ lw_tbl := by decide +kernel
set_option maxRecDepth 20000 in
theorem E_a4 : Cond.arrayOf (.static "StoneRiver$Text" "NUMBERS_AFTER" "[I") .int ∈ flatC (Jvm.Cond.and given_1 narrow_1) := by decide +kernel
set_option maxRecDepth 20000 in
theorem E_l4 : Cond.eq (.length (.static "StoneRiver$Text" "NUMBERS_AFTER" "[I")) (.int (Int32.ofNat 12)) ∈ flatC (Jvm.Cond.and given_1 narrow_1) := by decide +kernel
set_option maxRecDepth 20000 in
theorem E_e4 : ∀ j, j < 12 → Cond.eq (.elem (.static "StoneRiver$Text" "NUMBERS_AFTER" "[I") (.int (Int32.ofNat j))) (.int (tb4 j)) ∈ flatC (Jvm.Cond.and given_1 narrow_1) := by decide +kernel
set_option maxRecDepth 20000 in
theorem E_y4 : Cond.laysStatic "StoneRiver$Text" "NUMBERS_AFTER" "[I" ∈ lw_tbl ∧ Cond.initialized "StoneRiver$Text" ∈ lw_tbl := by decide +kernel
set_option maxRecDepth 20000 in
theorem E_s : Cond.exactly (.string "StoneRiver$Text" 71) "java/lang/String" ∈ flatC (Jvm.Cond.and given_1 narrow_1) ∧ Cond.eq (.field (.string "StoneRiver$Text" 71) "java/lang/String" "coder" "B") (.int 0) ∈ flatC (Jvm.Cond.and given_1 narrow_1) ∧ Cond.arrayOf (.field (.string "StoneRiver$Text" 71) "java/lang/String" "value" "[B") .byte ∈ flatC (Jvm.Cond.and given_1 narrow_1) ∧ Cond.eq (.length (.field (.string "StoneRiver$Text" 71) "java/lang/String" "value" "[B")) (.int (Int32.ofNat 96)) ∈ flatC (Jvm.Cond.and given_1 narrow_1) ∧ Cond.eq (.static "java/lang/String" "COMPACT_STRINGS" "Z") (.int 1) ∈ flatC (Jvm.Cond.and given_1 narrow_1) ∧ Cond.isRef (.static "jdk/internal/util/Preconditions" "SIOOBE_FORMATTER" "Ljava/util/function/BiFunction;") ∈ flatC (Jvm.Cond.and given_1 narrow_1) := by decide +kernel
set_option maxRecDepth 20000 in
theorem E_se : ∀ j, j < 96 → Cond.eq (.elem (.field (.string "StoneRiver$Text" 71) "java/lang/String" "value" "[B") (.int (Int32.ofNat j))) (.int (tbS j)) ∈ flatC (Jvm.Cond.and given_1 narrow_1) := by decide +kernel
set_option maxRecDepth 20000 in
theorem E_w : Cond.stringRef "StoneRiver$Text" 71 "cliff   boulder scratch ridge   cuts    wood    lichen  find    map     at      free    ice     " ∈ lw_tbl ∧ Cond.laysStatic "java/lang/String" "COMPACT_STRINGS" "Z" ∈ lw_tbl ∧ Cond.initialized "java/lang/String" ∈ lw_tbl ∧ Cond.laysStatic "jdk/internal/util/Preconditions" "SIOOBE_FORMATTER" "Ljava/util/function/BiFunction;" ∈ lw_tbl ∧ Cond.initialized "jdk/internal/util/Preconditions" ∈ lw_tbl ∧ Cond.arrayClass .int ∈ lw_tbl ∧ Cond.arrayClass .boolean ∈ lw_tbl := by decide +kernel
set_option maxHeartbeats 4000000 in
theorem kS_start {s : State} {b : Nat} (hgv : (Jvm.Cond.and given_1 narrow_1).before #[Value.ref b] s = true) (hts : ∀ w ∈ lw_tbl, w.before #[Value.ref b] s = true) : ∃ te : Nat → Nat, kS te (fun q : Nat => s.heap.size ≤ q) s s.heap := by
  have hA : ∀ a : Nat, a < s.heap.size → ¬ s.heap.size ≤ a := fun a h => Nat.not_le.mpr h
  obtain ⟨t0, ht0, hT0⟩ := va_Tof (tm := .static "StoneRiver$Valley" "ROW_STEP" "[I") (ty := .int) (N := 8) (f := fun j => .int (tb0 j)) (A := fun q : Nat => s.heap.size ≤ q) (by decide) (E_mem hgv E_a0) (va_eqt (E_mem hgv E_l0)) (fun j hj => va_eqt (E_mem hgv (E_e0 j hj))) hA
  have hZ0 : va_Z "StoneRiver$Valley" "ROW_STEP" "[I" (.ref t0) (fun q : Nat => s.heap.size ≤ q) s s.heap := va_Zof (hts _ E_y0.1) (hts _ E_y0.2) ht0 hA
  obtain ⟨t1, ht1, hT1⟩ := va_Tof (tm := .static "StoneRiver$Valley" "COLUMN_STEP" "[I") (ty := .int) (N := 8) (f := fun j => .int (tb1 j)) (A := fun q : Nat => s.heap.size ≤ q) (by decide) (E_mem hgv E_a1) (va_eqt (E_mem hgv E_l1)) (fun j hj => va_eqt (E_mem hgv (E_e1 j hj))) hA
  have hZ1 : va_Z "StoneRiver$Valley" "COLUMN_STEP" "[I" (.ref t1) (fun q : Nat => s.heap.size ≤ q) s s.heap := va_Zof (hts _ E_y1.1) (hts _ E_y1.2) ht1 hA
  obtain ⟨t2, ht2, hT2⟩ := va_Tof (tm := .static "StoneRiver$Found" "LEAST_NUMBERS" "[I") (ty := .int) (N := 6) (f := fun j => .int (tb2 j)) (A := fun q : Nat => s.heap.size ≤ q) (by decide) (E_mem hgv E_a2) (va_eqt (E_mem hgv E_l2)) (fun j hj => va_eqt (E_mem hgv (E_e2 j hj))) hA
  have hZ2 : va_Z "StoneRiver$Found" "LEAST_NUMBERS" "[I" (.ref t2) (fun q : Nat => s.heap.size ≤ q) s s.heap := va_Zof (hts _ E_y2.1) (hts _ E_y2.2) ht2 hA
  obtain ⟨t3, ht3, hT3⟩ := va_Tof (tm := .static "StoneRiver$Found" "MOST_NUMBERS" "[I") (ty := .int) (N := 6) (f := fun j => .int (tb3 j)) (A := fun q : Nat => s.heap.size ≤ q) (by decide) (E_mem hgv E_a3) (va_eqt (E_mem hgv E_l3)) (fun j hj => va_eqt (E_mem hgv (E_e3 j hj))) hA
  have hZ3 : va_Z "StoneRiver$Found" "MOST_NUMBERS" "[I" (.ref t3) (fun q : Nat => s.heap.size ≤ q) s s.heap := va_Zof (hts _ E_y3.1) (hts _ E_y3.2) ht3 hA
  obtain ⟨t4, ht4, hT4⟩ := va_Tof (tm := .static "StoneRiver$Text" "NUMBERS_AFTER" "[I") (ty := .int) (N := 12) (f := fun j => .int (tb4 j)) (A := fun q : Nat => s.heap.size ≤ q) (by decide) (E_mem hgv E_a4) (va_eqt (E_mem hgv E_l4)) (fun j hj => va_eqt (E_mem hgv (E_e4 j hj))) hA
  have hZ4 : va_Z "StoneRiver$Text" "NUMBERS_AFTER" "[I" (.ref t4) (fun q : Nat => s.heap.size ≤ q) s s.heap := va_Zof (hts _ E_y4.1) (hts _ E_y4.2) ht4 hA
  obtain ⟨adK, adV, hSt, hev⟩ := vk_Sof (N := 1) (tm := fun _ => .string "StoneRiver$Text" 71) (len := [96]) (byt := [(List.range 96).map tbS]) (A := fun q : Nat => s.heap.size ≤ q) (fun i hi => by
    obtain rfl : i = 0 := by omega
    decide) (fun _ _ => E_mem hgv E_s.1) (fun _ _ => E_mem hgv E_s.2.1) (fun _ _ => E_mem hgv E_s.2.2.1) (fun i hi => by
    obtain rfl : i = 0 := by omega
    exact E_mem hgv E_s.2.2.2.1) (fun i hi j hj => by
    obtain rfl : i = 0 := by omega
    have hj2 : j < 96 := hj
    have e1 : ([(List.range 96).map tbS].getD 0 []).getD j 0 = tbS j := by
      show ((List.range 96).map tbS).getD j 0 = tbS j
      rw [List.getD_eq_getElem?_getD, List.getElem?_map, List.getElem?_range hj2]
      rfl
    rw [e1]
    exact E_mem hgv (E_se j hj2)) (fun i j hi hj hne => by omega) hA
  obtain ⟨s1, s2, s3, s4⟩ := hSt.1 0 (by decide)
  have hR : vk_R RX6 71 "cliff   boulder scratch ridge   cuts    wood    lichen  find    map     at      free    ice     " (adK 0) s := vk_R.of (hts _ E_w.1) (hev 0 (by decide))
  have s5 : va_T .byte (adV 0) 96 (fun j => .int (tbS j)) (fun q : Nat => s.heap.size ≤ q) s s.heap := by
    obtain ⟨cell, a1, a2, a3, a4, a5, a6, a7⟩ := s4
    refine ⟨cell, a1, a2, a3, a4, a5, fun j hj => ?_, a7⟩
    rw [a6 j hj]
    have e1 : ([(List.range 96).map tbS].getD 0 []).getD j 0 = tbS j := by
      show ((List.range 96).map tbS).getD j 0 = tbS j
      rw [List.getD_eq_getElem?_getD, List.getElem?_map, List.getElem?_range hj]
      rfl
    show some (Value.int (([(List.range 96).map tbS].getD 0 []).getD j 0)) = some (Value.int (tbS j))
    rw [e1]
  have hCS : va_Z "java/lang/String" "COMPACT_STRINGS" "Z" (.int 1) (fun q : Nat => s.heap.size ≤ q) s s.heap := va_Zof (hts _ E_w.2.1) (hts _ E_w.2.2.1) (va_eqi (E_mem hgv E_s.2.2.2.2.1)) hA
  have hFM : va_Zq "jdk/internal/util/Preconditions" "SIOOBE_FORMATTER" "Ljava/util/function/BiFunction;" (fun q : Nat => s.heap.size ≤ q) s s.heap := va_Zqof (hts _ E_w.2.2.2.1) (hts _ E_w.2.2.2.2.1) (E_mem hgv E_s.2.2.2.2.2) hA
  exact ⟨fun k => ([t0, t1, t2, t3, t4, 0, 0, 0, 0, 0, adK 0, adV 0] : List Nat).getD k 0, ⟨hZ0, hT0⟩, ⟨hZ1, hT1⟩, ⟨hZ2, hT2⟩, ⟨hZ3, hT3⟩, ⟨hZ4, hT4⟩, hR, s1, s2, s3, s5, hCS, hFM⟩
set_option maxRecDepth 20000 in
theorem E_iX0 : Cond.instantiable RX0 14 ∈ lw_tbl := by decide +kernel
set_option maxRecDepth 20000 in
theorem E_iX1 : Cond.instantiable RX1 10 ∈ lw_tbl := by decide +kernel
set_option maxRecDepth 20000 in
theorem E_iX2 : Cond.instantiable RX2 10 ∈ lw_tbl := by decide +kernel
set_option maxRecDepth 20000 in
theorem E_iX3 : Cond.instantiable RX3 3 ∈ lw_tbl := by decide +kernel
set_option maxRecDepth 20000 in
theorem E_iX4 : Cond.instantiable RX4 3 ∈ lw_tbl := by decide +kernel
set_option maxRecDepth 20000 in
theorem E_iX6 : Cond.instantiable RX6 7 ∈ lw_tbl := by decide +kernel
set_option maxRecDepth 20000 in
theorem E_iX7 : Cond.instantiable RX7 3 ∈ lw_tbl := by decide +kernel
set_option maxRecDepth 20000 in
theorem E_iX9 : Cond.instantiable RX9 11 ∈ lw_tbl := by decide +kernel
set_option maxRecDepth 20000 in
theorem E_iX10 : Cond.instantiable RX10 32 ∈ lw_tbl := by decide +kernel
set_option maxHeartbeats 4000000 in
theorem kK_start {s : State} {b : Nat} (hts : ∀ w ∈ lw_tbl, w.before #[Value.ref b] s = true) : ∃ (dC : Nat → ClassId) (dI : Nat → Nat → Nat) (cI cZ : ClassId), va_K (dC, dI) vwCl (kT cI cZ) s := by
  have htl : ∀ w ∈ tG, w.before #[Value.ref b] s = true := fun w h => hts w (List.mem_filter.mp h).1
  obtain ⟨c0, iS0, hKn0⟩ := u_known (C := RX0) (T := TX0) (N := 14) (n := 14) htl tw_X0 (hts _ E_iX0)
  obtain ⟨c1, iS1, hKn1⟩ := u_known (C := RX1) (T := TX1) (N := 10) (n := 10) htl tw_X1 (hts _ E_iX1)
  obtain ⟨c2, iS2, hKn2⟩ := u_known (C := RX2) (T := TX2) (N := 10) (n := 10) htl tw_X2 (hts _ E_iX2)
  obtain ⟨c3, iS3, hKn3⟩ := u_known (C := RX3) (T := TX3) (N := 3) (n := 3) htl tw_X3 (hts _ E_iX3)
  obtain ⟨c4, iS4, hKn4⟩ := u_known (C := RX4) (T := TX4) (N := 3) (n := 3) htl tw_X4 (hts _ E_iX4)
  obtain ⟨c5, iS5, hKn5⟩ := u_known (C := RX6) (T := TX6) (N := 7) (n := 7) htl tw_X6 (hts _ E_iX6)
  obtain ⟨c6, iS6, hKn6⟩ := u_known (C := RX7) (T := TX7) (N := 3) (n := 3) htl tw_X7 (hts _ E_iX7)
  obtain ⟨c7, iS7, hKn7⟩ := u_known (C := RX9) (T := TX9) (N := 11) (n := 11) htl tw_X9 (hts _ E_iX9)
  obtain ⟨c8, iS8, hKn8⟩ := u_known (C := RX10) (T := TX10) (N := 32) (n := 32) htl tw_X10 (hts _ E_iX10)
  obtain ⟨cI, kI, mI, a1, a2, a3⟩ := Cond.arrayClass_spec (hts _ E_w.2.2.2.2.2.1)
  obtain ⟨cZ, kZ, mZ, b1, b2, b3⟩ := Cond.arrayClass_spec (hts _ E_w.2.2.2.2.2.2)
  refine ⟨fun k => [c0, c1, c2, c3, c4, c5, c6, c7, c8].getD k c0, fun k => [iS0, iS1, iS2, iS3, iS4, iS5, iS6, iS7, iS8].getD k iS0, cI, cZ, fun k q hq => ?_, fun k q hq => ?_⟩
  · match k, hq with
    | 0, hq => cases hq; exact hKn0
    | 1, hq => cases hq; exact hKn1
    | 2, hq => cases hq; exact hKn2
    | 3, hq => cases hq; exact hKn3
    | 4, hq => cases hq; exact hKn4
    | 5, hq => cases hq; exact hKn5
    | 6, hq => cases hq; exact hKn6
    | 7, hq => cases hq; exact hKn7
    | 8, hq => cases hq; exact hKn8
    | k + 9, hq => simp [vwCl] at hq
  · match k, hq with
    | 0, hq => cases hq; exact ⟨fun n z => ⟨fun k h => (by cases h), kI, a2, mI, a3⟩, a1⟩
    | 1, hq => cases hq; exact ⟨fun n z => ⟨fun k h => (by cases h), kZ, b2, mZ, b3⟩, b1⟩
    | k + 2, hq => simp [kT] at hq
