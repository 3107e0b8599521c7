def rmX7_fittingCliffs : Room := { frames := 3, cells := 0, slots := 0, locals := 74 }
abbrev wqX7_fittingCliffs : List Cond := Cond.code yX7_fittingCliffs cX7_fittingCliffs 5 (some .int) :: tG
set_option maxHeartbeats 4000000 in
set_option maxRecDepth 100000 in
theorem c_X7_fittingCliffs (l : Launch) (dC : Nat → ClassId) (dI : Nat → Nat → Nat) (cI cZ : ClassId) (te : Nat → Nat) (h_t : Nat) (h_p1 : Nat) (h_p1_surfaces : Nat) (h_p1_cliffs : Nat) (h_p1_boulders : Nat) (h_p1_scratches : Nat) (h_p1_numbers : Nat) (h_p1_facts : Nat) (h_p1_signs : Nat) (h_p1_areas : Nat) (h_p1_heights : Nat) (h_p1_boulders_cells : Nat) (h_t_next : Nat) (h_t_stepsToGoal : Nat) (h_t_stepsFromEarlier : Nat) (h_p1_cliffs_cells : Nat) (p1_ridges : Int32) (p1_boulders_limit : Int32) (p1_boulders_size : Int32) (n_p1_boulders_cells : Nat) (p1_boulders_cells : Nat → Int32) (t_stepsToGoal : Nat → Int32) (p1_surfaces : Nat → Int32) (t_next : Nat → Int32) (t_stepsFromEarlier : Nat → Int32) (p1_cliffs_limit : Int32) (p1_cliffs_size : Int32) (n_p1_cliffs_cells : Nat) (p1_cliffs_cells : Nat → Int32) (p2 : Int32) (o0 : Int32) (o1 : Nat → Int32) (o2 : Nat → Int32) (o3 : Nat → Int32) (hf : f_X7_fittingCliffs p1_boulders_size n_p1_boulders_cells p1_boulders_cells t_stepsToGoal p1_surfaces t_next t_stepsFromEarlier p1_cliffs_size n_p1_cliffs_cells p1_cliffs_cells p2 = some (o0, o1, o2, o3)) : CM l yX7_fittingCliffs wqX7_fittingCliffs rmX7_fittingCliffs (kS te) dC dI cI cZ [.ref h_t, .ref h_p1, .int p2] [(h_p1, .inr (1, fX1 h_p1_surfaces h_p1_cliffs h_p1_boulders h_p1_scratches h_p1_numbers h_p1_facts h_p1_signs h_p1_areas h_p1_heights p1_ridges)), (h_p1_boulders, .inr (4, fX4 p1_boulders_limit h_p1_boulders_cells p1_boulders_size)), (h_p1_boulders_cells, .inl (cI, n_p1_boulders_cells, .inl p1_boulders_cells)), (h_t, .inr (6, fX7 h_t_next h_t_stepsToGoal h_t_stepsFromEarlier)), (h_t_stepsToGoal, .inl (cI, 64, .inl t_stepsToGoal)), (h_p1_surfaces, .inl (cI, 192, .inl p1_surfaces)), (h_t_next, .inl (cI, 64, .inl t_next)), (h_t_stepsFromEarlier, .inl (cI, 64, .inl t_stepsFromEarlier)), (h_p1_cliffs, .inr (4, fX4 p1_cliffs_limit h_p1_cliffs_cells p1_cliffs_size)), (h_p1_cliffs_cells, .inl (cI, n_p1_cliffs_cells, .inl p1_cliffs_cells))] [(h_p1, .inr (1, fX1 h_p1_surfaces h_p1_cliffs h_p1_boulders h_p1_scratches h_p1_numbers h_p1_facts h_p1_signs h_p1_areas h_p1_heights p1_ridges)), (h_p1_boulders, .inr (4, fX4 p1_boulders_limit h_p1_boulders_cells p1_boulders_size)), (h_p1_boulders_cells, .inl (cI, n_p1_boulders_cells, .inl p1_boulders_cells)), (h_t, .inr (6, fX7 h_t_next h_t_stepsToGoal h_t_stepsFromEarlier)), (h_t_stepsToGoal, .inl (cI, 64, .inl o1)), (h_p1_surfaces, .inl (cI, 192, .inl p1_surfaces)), (h_t_next, .inl (cI, 64, .inl o2)), (h_t_stepsFromEarlier, .inl (cI, 64, .inl o3)), (h_p1_cliffs, .inr (4, fX4 p1_cliffs_limit h_p1_cliffs_cells p1_cliffs_size)), (h_p1_cliffs_cells, .inl (cI, n_p1_cliffs_cells, .inl p1_cliffs_cells))] (some (.int o0)) := by
  refine CM_of (cc := cX7_fittingCliffs) (maxL := 5) (ret := (some .int)) (by decide +kernel) rfl (Nat.le_of_ble_eq_true rfl) ?_
  intro p e s m args below meth c A Q hx hb hr hml hown hts hlocks hA hK hP hD hS hE hQ hAe ls hl
  have hown : s.vm.findClass RX7 = some m.cls := hown
  have hl : lv_has ls 5 [(0, .ref h_t), (1, .ref h_p1), (2, .int p2)] := hl
  unfold f_X7_fittingCliffs at hf
  refine lv_aload_n hx hb dX7_fittingCliffs_0 rfl (lv_at hl 0 rfl) ?_
  refine lv_aload_n hx hb dX7_fittingCliffs_1 rfl (lv_at hl 1 rfl) ?_
  refine va_get (D := (dC, dI)) (ci := 1) (v := .ref h_p1_surfaces) (C := RX1) (T := TX1) (N := 10) hx hb hts (in1 tw_X1) hown hK hP 0 rfl rfl 0 (by decide) (hts _ (List.mem_cons_of_mem _ kw_669)) (fun _ h9 => h9) rfl dX7_fittingCliffs_2 ?_
  refine lv_aload_n hx hb dX7_fittingCliffs_5 rfl (lv_at hl 1 rfl) ?_
  refine va_get (D := (dC, dI)) (ci := 1) (v := .ref h_p1_boulders) (C := RX1) (T := TX1) (N := 10) hx hb hts (in1 tw_X1) hown hK hP 0 rfl rfl 2 (by decide) (hts _ (List.mem_cons_of_mem _ kw_670)) (fun _ h9 => h9) rfl dX7_fittingCliffs_6 ?_
  refine lv_iload_n hx hb dX7_fittingCliffs_9 rfl (lv_at hl 2 rfl) ?_
  refine lv_iconst (v := (0 : Int32)) hx hb dX7_fittingCliffs_10 (by decide) ?_
  obtain ⟨r1, hg2, hf⟩ := bd1_some hf
  refine CM_callV (C := RX4) (As := [.int p2, .int (0 : Int32)]) (rest := [.ref h_p1_surfaces, .ref h_t]) (wc := [(h_p1_boulders, .inr (4, fX4 p1_boulders_limit h_p1_boulders_cells p1_boulders_size)), (h_p1_boulders_cells, .inl (cI, n_p1_boulders_cells, .inl p1_boulders_cells))]) (w1 := [(h_p1_boulders, .inr (4, fX4 p1_boulders_limit h_p1_boulders_cells p1_boulders_size)), (h_p1_boulders_cells, .inl (cI, n_p1_boulders_cells, .inl p1_boulders_cells))]) (wr := [(h_p1, .inr (1, fX1 h_p1_surfaces h_p1_cliffs h_p1_boulders h_p1_scratches h_p1_numbers h_p1_facts h_p1_signs h_p1_areas h_p1_heights p1_ridges)), (h_t, .inr (6, fX7 h_t_next h_t_stepsToGoal h_t_stepsFromEarlier)), (h_t_stepsToGoal, .inl (cI, 64, .inl t_stepsToGoal)), (h_p1_surfaces, .inl (cI, 192, .inl p1_surfaces)), (h_t_next, .inl (cI, 64, .inl t_next)), (h_t_stepsFromEarlier, .inl (cI, 64, .inl t_stepsFromEarlier)), (h_p1_cliffs, .inr (4, fX4 p1_cliffs_limit h_p1_cliffs_cells p1_cliffs_size)), (h_p1_cliffs_cells, .inl (cI, n_p1_cliffs_cells, .inl p1_cliffs_cells))]) (wo := [(h_p1, .inr (1, fX1 h_p1_surfaces h_p1_cliffs h_p1_boulders h_p1_scratches h_p1_numbers h_p1_facts h_p1_signs h_p1_areas h_p1_heights p1_ridges)), (h_p1_boulders, .inr (4, fX4 p1_boulders_limit h_p1_boulders_cells p1_boulders_size)), (h_p1_boulders_cells, .inl (cI, n_p1_boulders_cells, .inl p1_boulders_cells)), (h_t, .inr (6, fX7 h_t_next h_t_stepsToGoal h_t_stepsFromEarlier)), (h_t_stepsToGoal, .inl (cI, 64, .inl t_stepsToGoal)), (h_p1_surfaces, .inl (cI, 192, .inl p1_surfaces)), (h_t_next, .inl (cI, 64, .inl t_next)), (h_t_stepsFromEarlier, .inl (cI, 64, .inl t_stepsFromEarlier)), (h_p1_cliffs, .inr (4, fX4 p1_cliffs_limit h_p1_cliffs_cells p1_cliffs_size)), (h_p1_cliffs_cells, .inl (cI, n_p1_cliffs_cells, .inl p1_cliffs_cells))]) (v := (some (.int r1))) ⟨hx, hb, hml, hown, hts⟩ (c_X4_cell l dC dI cI cZ te h_p1_boulders h_p1_boulders_cells p1_boulders_limit p1_boulders_size n_p1_boulders_cells p1_boulders_cells p2 (0 : Int32) r1 hg2) (cwV 2 hts (gV kw_671 kw_414 kw_415 kw_19 kw_416) rfl rfl rfl (by decide +kernel) ⟨Nat.le_of_ble_eq_true rfl, Nat.le_of_ble_eq_true rfl⟩) (kS_env te) hK hP hD hS hA hE [1, 2] [0, 3, 4, 5, 6, 7, 8, 9] [0, 8, 9, 1, 2, 3, 4, 5, 6, 7] rfl rfl (by decide) (by decide) (by decide) (by decide) rfl 1 4 rfl rfl rfl rfl hl.1 rfl (Nat.le_of_ble_eq_true rfl) dX7_fittingCliffs_11 ⟨Nat.zero_le _, Nat.zero_le _⟩ (fun H locs hP hD hS => ?_)
  show W p l e rmX7_fittingCliffs s m args below meth c H locs 0 0 Q (F0 m 14 ls [.int r1, .ref h_p1_surfaces, .ref h_t])
  obtain ⟨y3, y4, y5, hg6, hf⟩ := bd3_some hf
  refine CM_callV (C := RX7) (As := [.ref h_p1_surfaces, .int r1]) (rest := []) (wc := [(h_t, .inr (6, fX7 h_t_next h_t_stepsToGoal h_t_stepsFromEarlier)), (h_t_stepsToGoal, .inl (cI, 64, .inl t_stepsToGoal)), (h_p1_surfaces, .inl (cI, 192, .inl p1_surfaces)), (h_t_next, .inl (cI, 64, .inl t_next)), (h_t_stepsFromEarlier, .inl (cI, 64, .inl t_stepsFromEarlier))]) (w1 := [(h_t, .inr (6, fX7 h_t_next h_t_stepsToGoal h_t_stepsFromEarlier)), (h_t_stepsToGoal, .inl (cI, 64, .inl y3)), (h_p1_surfaces, .inl (cI, 192, .inl p1_surfaces)), (h_t_next, .inl (cI, 64, .inl y4)), (h_t_stepsFromEarlier, .inl (cI, 64, .inl y5))]) (wr := [(h_p1, .inr (1, fX1 h_p1_surfaces h_p1_cliffs h_p1_boulders h_p1_scratches h_p1_numbers h_p1_facts h_p1_signs h_p1_areas h_p1_heights p1_ridges)), (h_p1_boulders, .inr (4, fX4 p1_boulders_limit h_p1_boulders_cells p1_boulders_size)), (h_p1_boulders_cells, .inl (cI, n_p1_boulders_cells, .inl p1_boulders_cells)), (h_p1_cliffs, .inr (4, fX4 p1_cliffs_limit h_p1_cliffs_cells p1_cliffs_size)), (h_p1_cliffs_cells, .inl (cI, n_p1_cliffs_cells, .inl p1_cliffs_cells))]) (wo := [(h_p1, .inr (1, fX1 h_p1_surfaces h_p1_cliffs h_p1_boulders h_p1_scratches h_p1_numbers h_p1_facts h_p1_signs h_p1_areas h_p1_heights p1_ridges)), (h_p1_boulders, .inr (4, fX4 p1_boulders_limit h_p1_boulders_cells p1_boulders_size)), (h_p1_boulders_cells, .inl (cI, n_p1_boulders_cells, .inl p1_boulders_cells)), (h_t, .inr (6, fX7 h_t_next h_t_stepsToGoal h_t_stepsFromEarlier)), (h_t_stepsToGoal, .inl (cI, 64, .inl y3)), (h_p1_surfaces, .inl (cI, 192, .inl p1_surfaces)), (h_t_next, .inl (cI, 64, .inl y4)), (h_t_stepsFromEarlier, .inl (cI, 64, .inl y5)), (h_p1_cliffs, .inr (4, fX4 p1_cliffs_limit h_p1_cliffs_cells p1_cliffs_size)), (h_p1_cliffs_cells, .inl (cI, n_p1_cliffs_cells, .inl p1_cliffs_cells))]) (v := (none)) ⟨hx, hb, hml, hown, hts⟩ (c_X7_leadTo l dC dI cI cZ te h_t h_p1_surfaces h_t_next h_t_stepsToGoal h_t_stepsFromEarlier t_stepsToGoal (192) p1_surfaces t_next t_stepsFromEarlier r1 y3 y4 y5 hg6) (cwV 2 hts (gV kw_672 kw_673 kw_674 kw_81 kw_675) rfl rfl rfl (by decide +kernel) ⟨Nat.le_of_ble_eq_true rfl, Nat.le_of_ble_eq_true rfl⟩) (kS_env te) hK hP hD hS hA hE [3, 4, 5, 6, 7] [0, 1, 2, 8, 9] [0, 1, 2, 5, 6, 7, 8, 9, 3, 4] rfl rfl (by decide) (by decide) (by decide) (by decide) rfl 3 6 rfl rfl rfl rfl hl.1 rfl (Nat.le_of_ble_eq_true rfl) dX7_fittingCliffs_14 ⟨Nat.zero_le _, Nat.zero_le _⟩ (fun H locs hP hD hS => ?_)
  show W p l e rmX7_fittingCliffs s m args below meth c H locs 0 0 Q (F0 m 17 ls [])
  refine lv_iconst (v := (0 : Int32)) hx hb dX7_fittingCliffs_17 (by decide) ?_
  refine lv_istore_n (lv' := [(3, .int (0 : Int32)), (0, .ref h_t), (1, .ref h_p1), (2, .int p2)]) hx hb dX7_fittingCliffs_18 rfl hl (by decide) rfl (fun ls hl => ?_)
  refine lv_iconst (v := (0 : Int32)) hx hb dX7_fittingCliffs_19 (by decide) ?_
  refine lv_istore (lv' := [(4, .int (0 : Int32)), (3, .int (0 : Int32)), (0, .ref h_t), (1, .ref h_p1), (2, .int p2)]) hx hb dX7_fittingCliffs_20 hl (by decide) rfl (fun ls hl => ?_)
  have L31 : ∀ (fu21 : Nat) (x18 : Int32) (x19 : Int32) (x17 : Int32), f_X7_fittingCliffs_L1 p1_cliffs_size n_p1_cliffs_cells p1_cliffs_cells p1_boulders_size n_p1_boulders_cells p1_boulders_cells y3 p2 fu21 x18 x19 = some x17 → (∀ (H : Heap) (locs : List Loc), va_P (dC, dI) vwCl [(h_p1, .inr (1, fX1 h_p1_surfaces h_p1_cliffs h_p1_boulders h_p1_scratches h_p1_numbers h_p1_facts h_p1_signs h_p1_areas h_p1_heights p1_ridges)), (h_p1_boulders, .inr (4, fX4 p1_boulders_limit h_p1_boulders_cells p1_boulders_size)), (h_p1_boulders_cells, .inl (cI, n_p1_boulders_cells, .inl p1_boulders_cells)), (h_t, .inr (6, fX7 h_t_next h_t_stepsToGoal h_t_stepsFromEarlier)), (h_t_stepsToGoal, .inl (cI, 64, .inl y3)), (h_p1_surfaces, .inl (cI, 192, .inl p1_surfaces)), (h_t_next, .inl (cI, 64, .inl y4)), (h_t_stepsFromEarlier, .inl (cI, 64, .inl y5)), (h_p1_cliffs, .inr (4, fX4 p1_cliffs_limit h_p1_cliffs_cells p1_cliffs_size)), (h_p1_cliffs_cells, .inl (cI, n_p1_cliffs_cells, .inl p1_cliffs_cells))] H → va_D A [(h_p1, .inr (1, fX1 h_p1_surfaces h_p1_cliffs h_p1_boulders h_p1_scratches h_p1_numbers h_p1_facts h_p1_signs h_p1_areas h_p1_heights p1_ridges)), (h_p1_boulders, .inr (4, fX4 p1_boulders_limit h_p1_boulders_cells p1_boulders_size)), (h_p1_boulders_cells, .inl (cI, n_p1_boulders_cells, .inl p1_boulders_cells)), (h_t, .inr (6, fX7 h_t_next h_t_stepsToGoal h_t_stepsFromEarlier)), (h_t_stepsToGoal, .inl (cI, 64, .inl y3)), (h_p1_surfaces, .inl (cI, 192, .inl p1_surfaces)), (h_t_next, .inl (cI, 64, .inl y4)), (h_t_stepsFromEarlier, .inl (cI, 64, .inl y5)), (h_p1_cliffs, .inr (4, fX4 p1_cliffs_limit h_p1_cliffs_cells p1_cliffs_size)), (h_p1_cliffs_cells, .inl (cI, n_p1_cliffs_cells, .inl p1_cliffs_cells))] → va_S A s.heap H locs → ∀ ls : Array Slot, lv_has ls 5 [(3, .int x17)] → W p l e rmX7_fittingCliffs s m args below meth c H locs 0 0 Q (F0 m 59 ls [])) → ∀ (H : Heap) (locs : List Loc), va_P (dC, dI) vwCl [(h_p1, .inr (1, fX1 h_p1_surfaces h_p1_cliffs h_p1_boulders h_p1_scratches h_p1_numbers h_p1_facts h_p1_signs h_p1_areas h_p1_heights p1_ridges)), (h_p1_boulders, .inr (4, fX4 p1_boulders_limit h_p1_boulders_cells p1_boulders_size)), (h_p1_boulders_cells, .inl (cI, n_p1_boulders_cells, .inl p1_boulders_cells)), (h_t, .inr (6, fX7 h_t_next h_t_stepsToGoal h_t_stepsFromEarlier)), (h_t_stepsToGoal, .inl (cI, 64, .inl y3)), (h_p1_surfaces, .inl (cI, 192, .inl p1_surfaces)), (h_t_next, .inl (cI, 64, .inl y4)), (h_t_stepsFromEarlier, .inl (cI, 64, .inl y5)), (h_p1_cliffs, .inr (4, fX4 p1_cliffs_limit h_p1_cliffs_cells p1_cliffs_size)), (h_p1_cliffs_cells, .inl (cI, n_p1_cliffs_cells, .inl p1_cliffs_cells))] H → va_D A [(h_p1, .inr (1, fX1 h_p1_surfaces h_p1_cliffs h_p1_boulders h_p1_scratches h_p1_numbers h_p1_facts h_p1_signs h_p1_areas h_p1_heights p1_ridges)), (h_p1_boulders, .inr (4, fX4 p1_boulders_limit h_p1_boulders_cells p1_boulders_size)), (h_p1_boulders_cells, .inl (cI, n_p1_boulders_cells, .inl p1_boulders_cells)), (h_t, .inr (6, fX7 h_t_next h_t_stepsToGoal h_t_stepsFromEarlier)), (h_t_stepsToGoal, .inl (cI, 64, .inl y3)), (h_p1_surfaces, .inl (cI, 192, .inl p1_surfaces)), (h_t_next, .inl (cI, 64, .inl y4)), (h_t_stepsFromEarlier, .inl (cI, 64, .inl y5)), (h_p1_cliffs, .inr (4, fX4 p1_cliffs_limit h_p1_cliffs_cells p1_cliffs_size)), (h_p1_cliffs_cells, .inl (cI, n_p1_cliffs_cells, .inl p1_cliffs_cells))] → va_S A s.heap H locs → ∀ ls : Array Slot, lv_has ls 5 [(0, .ref h_t), (1, .ref h_p1), (2, .int p2), (3, .int x18), (4, .int x19)] → W p l e rmX7_fittingCliffs s m args below meth c H locs 0 0 Q (F0 m 22 ls []) := by
    intro fu21
    induction fu21 with
    | zero =>
      intro x18 x19 x17 hf
      unfold f_X7_fittingCliffs_L1 at hf
      exact none_ne hf
    | succ fu21 ih20 =>
      intro x18 x19 x17 hf hX22 H locs hP hD hS ls hl
      unfold f_X7_fittingCliffs_L1 at hf
      refine lv_iload hx hb dX7_fittingCliffs_22 (lv_at hl 4 rfl) ?_
      refine lv_aload_n hx hb dX7_fittingCliffs_24 rfl (lv_at hl 1 rfl) ?_
      refine va_get (D := (dC, dI)) (ci := 1) (v := .ref h_p1_cliffs) (C := RX1) (T := TX1) (N := 10) hx hb hts (in1 tw_X1) hown hK hP 0 rfl rfl 1 (by decide) (hts _ (List.mem_cons_of_mem _ kw_676)) (fun _ h9 => h9) rfl dX7_fittingCliffs_25 ?_
      obtain ⟨r23, hg24, hf⟩ := bd1_some hf
      refine CM_callV (C := RX4) (As := []) (rest := [.int x19]) (wc := [(h_p1_cliffs, .inr (4, fX4 p1_cliffs_limit h_p1_cliffs_cells p1_cliffs_size))]) (w1 := [(h_p1_cliffs, .inr (4, fX4 p1_cliffs_limit h_p1_cliffs_cells p1_cliffs_size))]) (wr := [(h_p1, .inr (1, fX1 h_p1_surfaces h_p1_cliffs h_p1_boulders h_p1_scratches h_p1_numbers h_p1_facts h_p1_signs h_p1_areas h_p1_heights p1_ridges)), (h_p1_boulders, .inr (4, fX4 p1_boulders_limit h_p1_boulders_cells p1_boulders_size)), (h_p1_boulders_cells, .inl (cI, n_p1_boulders_cells, .inl p1_boulders_cells)), (h_t, .inr (6, fX7 h_t_next h_t_stepsToGoal h_t_stepsFromEarlier)), (h_t_stepsToGoal, .inl (cI, 64, .inl y3)), (h_p1_surfaces, .inl (cI, 192, .inl p1_surfaces)), (h_t_next, .inl (cI, 64, .inl y4)), (h_t_stepsFromEarlier, .inl (cI, 64, .inl y5)), (h_p1_cliffs_cells, .inl (cI, n_p1_cliffs_cells, .inl p1_cliffs_cells))]) (wo := [(h_p1, .inr (1, fX1 h_p1_surfaces h_p1_cliffs h_p1_boulders h_p1_scratches h_p1_numbers h_p1_facts h_p1_signs h_p1_areas h_p1_heights p1_ridges)), (h_p1_boulders, .inr (4, fX4 p1_boulders_limit h_p1_boulders_cells p1_boulders_size)), (h_p1_boulders_cells, .inl (cI, n_p1_boulders_cells, .inl p1_boulders_cells)), (h_t, .inr (6, fX7 h_t_next h_t_stepsToGoal h_t_stepsFromEarlier)), (h_t_stepsToGoal, .inl (cI, 64, .inl y3)), (h_p1_surfaces, .inl (cI, 192, .inl p1_surfaces)), (h_t_next, .inl (cI, 64, .inl y4)), (h_t_stepsFromEarlier, .inl (cI, 64, .inl y5)), (h_p1_cliffs, .inr (4, fX4 p1_cliffs_limit h_p1_cliffs_cells p1_cliffs_size)), (h_p1_cliffs_cells, .inl (cI, n_p1_cliffs_cells, .inl p1_cliffs_cells))]) (v := (some (.int r23))) ⟨hx, hb, hml, hown, hts⟩ (c_X4_size l dC dI cI cZ te h_p1_cliffs h_p1_cliffs_cells p1_cliffs_limit p1_cliffs_size r23 hg24) (cwV 0 hts (gV kw_681 kw_404 kw_405 kw_19 kw_406) rfl rfl rfl (by decide +kernel) ⟨Nat.le_of_ble_eq_true rfl, Nat.le_of_ble_eq_true rfl⟩) (kS_env te) hK hP hD hS hA hE [8] [0, 1, 2, 3, 4, 5, 6, 7, 9] [0, 1, 2, 3, 4, 5, 6, 7, 9, 8] rfl rfl (by decide) (by decide) (by decide) (by decide) rfl 8 4 rfl rfl rfl rfl hl.1 rfl (Nat.le_of_ble_eq_true rfl) dX7_fittingCliffs_28 ⟨Nat.zero_le _, Nat.zero_le _⟩ (fun H locs hP hD hS => ?_)
      show W p l e rmX7_fittingCliffs s m args below meth c H locs 0 0 Q (F0 m 31 ls [.int r23, .int x19])
      refine lv_icmp_ge (tgt := 59) hx hb dX7_fittingCliffs_31 (by decide) (fun c25 => ?_) (fun c25 => ?_)
      · replace hf := ifp c25 hf
        obtain rfl := inj1 hf
        exact hX22 _ _ hP hD hS _ (lv_sub hl [3] rfl)
      · replace hf := ifn c25 hf
        refine lv_aload_n hx hb dX7_fittingCliffs_34 rfl (lv_at hl 0 rfl) ?_
        refine lv_aload_n hx hb dX7_fittingCliffs_35 rfl (lv_at hl 1 rfl) ?_
        refine lv_iload_n hx hb dX7_fittingCliffs_36 rfl (lv_at hl 2 rfl) ?_
        refine lv_iload hx hb dX7_fittingCliffs_37 (lv_at hl 4 rfl) ?_
        obtain ⟨r26, hg27, hf⟩ := bd1_some hf
        refine CM_callV (C := RX7) (As := [.ref h_p1, .int p2, .int x19]) (rest := []) (wc := [(h_p1, .inr (1, fX1 h_p1_surfaces h_p1_cliffs h_p1_boulders h_p1_scratches h_p1_numbers h_p1_facts h_p1_signs h_p1_areas h_p1_heights p1_ridges)), (h_p1_cliffs, .inr (4, fX4 p1_cliffs_limit h_p1_cliffs_cells p1_cliffs_size)), (h_p1_cliffs_cells, .inl (cI, n_p1_cliffs_cells, .inl p1_cliffs_cells)), (h_p1_boulders, .inr (4, fX4 p1_boulders_limit h_p1_boulders_cells p1_boulders_size)), (h_p1_boulders_cells, .inl (cI, n_p1_boulders_cells, .inl p1_boulders_cells)), (h_t, .inr (6, fX7 h_t_next h_t_stepsToGoal h_t_stepsFromEarlier)), (h_t_stepsToGoal, .inl (cI, 64, .inl y3))]) (w1 := [(h_p1, .inr (1, fX1 h_p1_surfaces h_p1_cliffs h_p1_boulders h_p1_scratches h_p1_numbers h_p1_facts h_p1_signs h_p1_areas h_p1_heights p1_ridges)), (h_p1_cliffs, .inr (4, fX4 p1_cliffs_limit h_p1_cliffs_cells p1_cliffs_size)), (h_p1_cliffs_cells, .inl (cI, n_p1_cliffs_cells, .inl p1_cliffs_cells)), (h_p1_boulders, .inr (4, fX4 p1_boulders_limit h_p1_boulders_cells p1_boulders_size)), (h_p1_boulders_cells, .inl (cI, n_p1_boulders_cells, .inl p1_boulders_cells)), (h_t, .inr (6, fX7 h_t_next h_t_stepsToGoal h_t_stepsFromEarlier)), (h_t_stepsToGoal, .inl (cI, 64, .inl y3))]) (wr := [(h_p1_surfaces, .inl (cI, 192, .inl p1_surfaces)), (h_t_next, .inl (cI, 64, .inl y4)), (h_t_stepsFromEarlier, .inl (cI, 64, .inl y5))]) (wo := [(h_p1, .inr (1, fX1 h_p1_surfaces h_p1_cliffs h_p1_boulders h_p1_scratches h_p1_numbers h_p1_facts h_p1_signs h_p1_areas h_p1_heights p1_ridges)), (h_p1_boulders, .inr (4, fX4 p1_boulders_limit h_p1_boulders_cells p1_boulders_size)), (h_p1_boulders_cells, .inl (cI, n_p1_boulders_cells, .inl p1_boulders_cells)), (h_t, .inr (6, fX7 h_t_next h_t_stepsToGoal h_t_stepsFromEarlier)), (h_t_stepsToGoal, .inl (cI, 64, .inl y3)), (h_p1_surfaces, .inl (cI, 192, .inl p1_surfaces)), (h_t_next, .inl (cI, 64, .inl y4)), (h_t_stepsFromEarlier, .inl (cI, 64, .inl y5)), (h_p1_cliffs, .inr (4, fX4 p1_cliffs_limit h_p1_cliffs_cells p1_cliffs_size)), (h_p1_cliffs_cells, .inl (cI, n_p1_cliffs_cells, .inl p1_cliffs_cells))]) (v := (some (.int r26))) ⟨hx, hb, hml, hown, hts⟩ (c_X7_stepsOfSort l dC dI cI cZ te h_t h_p1 h_p1_surfaces h_p1_cliffs h_p1_boulders h_p1_scratches h_p1_numbers h_p1_facts h_p1_signs h_p1_areas h_p1_heights h_p1_cliffs_cells h_p1_boulders_cells h_t_next h_t_stepsToGoal h_t_stepsFromEarlier p1_ridges p1_cliffs_limit p1_cliffs_size n_p1_cliffs_cells p1_cliffs_cells p1_boulders_limit p1_boulders_size n_p1_boulders_cells p1_boulders_cells y3 p2 x19 r26 hg27) (cwV 3 hts (gV kw_682 kw_683 kw_684 kw_81 kw_685) rfl rfl rfl (by decide +kernel) ⟨Nat.le_of_ble_eq_true rfl, Nat.le_of_ble_eq_true rfl⟩) (kS_env te) hK hP hD hS hA hE [0, 8, 9, 1, 2, 3, 4] [5, 6, 7] [3, 6, 7, 8, 9, 0, 1, 2, 4, 5] rfl rfl (by decide) (by decide) (by decide) (by decide) rfl 3 6 rfl rfl rfl rfl hl.1 rfl (Nat.le_of_ble_eq_true rfl) dX7_fittingCliffs_39 ⟨Nat.zero_le _, Nat.zero_le _⟩ (fun H locs hP hD hS => ?_)
        show W p l e rmX7_fittingCliffs s m args below meth c H locs 0 0 Q (F0 m 42 ls [.int r26])
        refine lv_iconst (v := (-1 : Int32)) hx hb dX7_fittingCliffs_42 (by decide) ?_
        refine lv_icmp_eq (tgt := 53) hx hb dX7_fittingCliffs_43 (by decide) (fun c28 => ?_) (fun c28 => ?_)
        · replace hf := ifp c28 hf
          refine lv_iinc (v := (x19 + (1 : Int32))) (lv' := [(4, .int (x19 + (1 : Int32))), (0, .ref h_t), (1, .ref h_p1), (2, .int p2), (3, .int x18)]) hx hb dX7_fittingCliffs_53 hl (k := 4) rfl rfl (by decide) rfl (fun ls hl => ?_)
          refine lv_goto (tgt := 22) hx hb dX7_fittingCliffs_56 (by decide) ?_
          exact ih20 _ _ _ hf hX22 _ _ hP hD hS _ (lv_sub hl [1, 2, 3, 4, 0] rfl)
        · replace hf := ifn c28 hf
          refine lv_iload_n hx hb dX7_fittingCliffs_46 rfl (lv_at hl 3 rfl) ?_
          refine lv_iconst (v := (1 : Int32)) hx hb dX7_fittingCliffs_47 (by decide) ?_
          refine lv_iload hx hb dX7_fittingCliffs_48 (lv_at hl 4 rfl) ?_
          refine lv_ishl hx hb dX7_fittingCliffs_50 ?_
          refine lv_ior hx hb dX7_fittingCliffs_51 ?_
          obtain ⟨x29, e30, hf⟩ := nm_some hf
          refine lv_tope e30 ?_
          refine lv_istore_n (lv' := [(3, .int x29), (0, .ref h_t), (1, .ref h_p1), (2, .int p2), (4, .int x19)]) hx hb dX7_fittingCliffs_52 rfl hl (by decide) rfl (fun ls hl => ?_)
          refine lv_iinc (v := (x19 + (1 : Int32))) (lv' := [(4, .int (x19 + (1 : Int32))), (3, .int x29), (0, .ref h_t), (1, .ref h_p1), (2, .int p2)]) hx hb dX7_fittingCliffs_53 hl (k := 4) rfl rfl (by decide) rfl (fun ls hl => ?_)
          refine lv_goto (tgt := 22) hx hb dX7_fittingCliffs_56 (by decide) ?_
          exact ih20 _ _ _ hf hX22 _ _ hP hD hS _ (lv_sub hl [2, 3, 4, 1, 0] rfl)
  obtain ⟨x17, hg, hf⟩ := bd1_some hf
  refine L31 FU _ _ _ hg ?_ _ _ hP hD hS _ (lv_sub hl [2, 3, 4, 1, 0] rfl)
  · intro H locs hP hD hS ls hl
    refine lv_iload_n hx hb dX7_fittingCliffs_59 rfl (lv_at hl 0 rfl) ?_
    obtain ⟨rfl, rfl, rfl, rfl⟩ := inj4 hf
    subst hQ
    exact CM_iret hx hb hr rfl hlocks hAe hP hD hS dX7_fittingCliffs_60
def rmX7_nearestCliff : Room := { frames := 3, cells := 0, slots := 0, locals := 74 }
abbrev wqX7_nearestCliff : List Cond := Cond.code yX7_nearestCliff cX7_nearestCliff 7 (some .int) :: tG
set_option maxHeartbeats 4000000 in
set_option maxRecDepth 100000 in
theorem c_X7_nearestCliff (l : Launch) (dC : Nat → ClassId) (dI : Nat → Nat → Nat) (cI cZ : ClassId) (te : Nat → Nat) (h_t : Nat) (h_p1 : Nat) (h_p1_surfaces : Nat) (h_p1_cliffs : Nat) (h_p1_boulders : Nat) (h_p1_scratches : Nat) (h_p1_numbers : Nat) (h_p1_facts : Nat) (h_p1_signs : Nat) (h_p1_areas : Nat) (h_p1_heights : Nat) (h_p1_boulders_cells : Nat) (h_t_next : Nat) (h_t_stepsToGoal : Nat) (h_t_stepsFromEarlier : Nat) (h_p1_cliffs_cells : Nat) (p1_ridges : Int32) (p1_boulders_limit : Int32) (p1_boulders_size : Int32) (n_p1_boulders_cells : Nat) (p1_boulders_cells : Nat → Int32) (t_stepsToGoal : Nat → Int32) (p1_surfaces : Nat → Int32) (t_next : Nat → Int32) (t_stepsFromEarlier : Nat → Int32) (p1_cliffs_limit : Int32) (p1_cliffs_size : Int32) (n_p1_cliffs_cells : Nat) (p1_cliffs_cells : Nat → Int32) (p2 : Int32) (o0 : Int32) (o1 : Nat → Int32) (o2 : Nat → Int32) (o3 : Nat → Int32) (hf : f_X7_nearestCliff p1_boulders_size n_p1_boulders_cells p1_boulders_cells t_stepsToGoal p1_surfaces t_next t_stepsFromEarlier p1_cliffs_size n_p1_cliffs_cells p1_cliffs_cells p2 = some (o0, o1, o2, o3)) : CM l yX7_nearestCliff wqX7_nearestCliff rmX7_nearestCliff (kS te) dC dI cI cZ [.ref h_t, .ref h_p1, .int p2] [(h_p1, .inr (1, fX1 h_p1_surfaces h_p1_cliffs h_p1_boulders h_p1_scratches h_p1_numbers h_p1_facts h_p1_signs h_p1_areas h_p1_heights p1_ridges)), (h_p1_boulders, .inr (4, fX4 p1_boulders_limit h_p1_boulders_cells p1_boulders_size)), (h_p1_boulders_cells, .inl (cI, n_p1_boulders_cells, .inl p1_boulders_cells)), (h_t, .inr (6, fX7 h_t_next h_t_stepsToGoal h_t_stepsFromEarlier)), (h_t_stepsToGoal, .inl (cI, 64, .inl t_stepsToGoal)), (h_p1_surfaces, .inl (cI, 192, .inl p1_surfaces)), (h_t_next, .inl (cI, 64, .inl t_next)), (h_t_stepsFromEarlier, .inl (cI, 64, .inl t_stepsFromEarlier)), (h_p1_cliffs, .inr (4, fX4 p1_cliffs_limit h_p1_cliffs_cells p1_cliffs_size)), (h_p1_cliffs_cells, .inl (cI, n_p1_cliffs_cells, .inl p1_cliffs_cells))] [(h_p1, .inr (1, fX1 h_p1_surfaces h_p1_cliffs h_p1_boulders h_p1_scratches h_p1_numbers h_p1_facts h_p1_signs h_p1_areas h_p1_heights p1_ridges)), (h_p1_boulders, .inr (4, fX4 p1_boulders_limit h_p1_boulders_cells p1_boulders_size)), (h_p1_boulders_cells, .inl (cI, n_p1_boulders_cells, .inl p1_boulders_cells)), (h_t, .inr (6, fX7 h_t_next h_t_stepsToGoal h_t_stepsFromEarlier)), (h_t_stepsToGoal, .inl (cI, 64, .inl o1)), (h_p1_surfaces, .inl (cI, 192, .inl p1_surfaces)), (h_t_next, .inl (cI, 64, .inl o2)), (h_t_stepsFromEarlier, .inl (cI, 64, .inl o3)), (h_p1_cliffs, .inr (4, fX4 p1_cliffs_limit h_p1_cliffs_cells p1_cliffs_size)), (h_p1_cliffs_cells, .inl (cI, n_p1_cliffs_cells, .inl p1_cliffs_cells))] (some (.int o0)) := by
  refine CM_of (cc := cX7_nearestCliff) (maxL := 7) (ret := (some .int)) (by decide +kernel) rfl (Nat.le_of_ble_eq_true rfl) ?_
  intro p e s m args below meth c A Q hx hb hr hml hown hts hlocks hA hK hP hD hS hE hQ hAe ls hl
  have hown : s.vm.findClass RX7 = some m.cls := hown
  have hl : lv_has ls 7 [(0, .ref h_t), (1, .ref h_p1), (2, .int p2)] := hl
  unfold f_X7_nearestCliff at hf
  refine lv_aload_n hx hb dX7_nearestCliff_0 rfl (lv_at hl 0 rfl) ?_
  refine lv_aload_n hx hb dX7_nearestCliff_1 rfl (lv_at hl 1 rfl) ?_
  refine va_get (D := (dC, dI)) (ci := 1) (v := .ref h_p1_surfaces) (C := RX1) (T := TX1) (N := 10) hx hb hts (in1 tw_X1) hown hK hP 0 rfl rfl 0 (by decide) (hts _ (List.mem_cons_of_mem _ kw_669)) (fun _ h9 => h9) rfl dX7_nearestCliff_2 ?_
  refine lv_aload_n hx hb dX7_nearestCliff_5 rfl (lv_at hl 1 rfl) ?_
  refine va_get (D := (dC, dI)) (ci := 1) (v := .ref h_p1_boulders) (C := RX1) (T := TX1) (N := 10) hx hb hts (in1 tw_X1) hown hK hP 0 rfl rfl 2 (by decide) (hts _ (List.mem_cons_of_mem _ kw_670)) (fun _ h9 => h9) rfl dX7_nearestCliff_6 ?_
  refine lv_iload_n hx hb dX7_nearestCliff_9 rfl (lv_at hl 2 rfl) ?_
  refine lv_iconst (v := (0 : Int32)) hx hb dX7_nearestCliff_10 (by decide) ?_
  obtain ⟨r1, hg2, hf⟩ := bd1_some hf
  refine CM_callV (C := RX4) (As := [.int p2, .int (0 : Int32)]) (rest := [.ref h_p1_surfaces, .ref h_t]) (wc := [(h_p1_boulders, .inr (4, fX4 p1_boulders_limit h_p1_boulders_cells p1_boulders_size)), (h_p1_boulders_cells, .inl (cI, n_p1_boulders_cells, .inl p1_boulders_cells))]) (w1 := [(h_p1_boulders, .inr (4, fX4 p1_boulders_limit h_p1_boulders_cells p1_boulders_size)), (h_p1_boulders_cells, .inl (cI, n_p1_boulders_cells, .inl p1_boulders_cells))]) (wr := [(h_p1, .inr (1, fX1 h_p1_surfaces h_p1_cliffs h_p1_boulders h_p1_scratches h_p1_numbers h_p1_facts h_p1_signs h_p1_areas h_p1_heights p1_ridges)), (h_t, .inr (6, fX7 h_t_next h_t_stepsToGoal h_t_stepsFromEarlier)), (h_t_stepsToGoal, .inl (cI, 64, .inl t_stepsToGoal)), (h_p1_surfaces, .inl (cI, 192, .inl p1_surfaces)), (h_t_next, .inl (cI, 64, .inl t_next)), (h_t_stepsFromEarlier, .inl (cI, 64, .inl t_stepsFromEarlier)), (h_p1_cliffs, .inr (4, fX4 p1_cliffs_limit h_p1_cliffs_cells p1_cliffs_size)), (h_p1_cliffs_cells, .inl (cI, n_p1_cliffs_cells, .inl p1_cliffs_cells))]) (wo := [(h_p1, .inr (1, fX1 h_p1_surfaces h_p1_cliffs h_p1_boulders h_p1_scratches h_p1_numbers h_p1_facts h_p1_signs h_p1_areas h_p1_heights p1_ridges)), (h_p1_boulders, .inr (4, fX4 p1_boulders_limit h_p1_boulders_cells p1_boulders_size)), (h_p1_boulders_cells, .inl (cI, n_p1_boulders_cells, .inl p1_boulders_cells)), (h_t, .inr (6, fX7 h_t_next h_t_stepsToGoal h_t_stepsFromEarlier)), (h_t_stepsToGoal, .inl (cI, 64, .inl t_stepsToGoal)), (h_p1_surfaces, .inl (cI, 192, .inl p1_surfaces)), (h_t_next, .inl (cI, 64, .inl t_next)), (h_t_stepsFromEarlier, .inl (cI, 64, .inl t_stepsFromEarlier)), (h_p1_cliffs, .inr (4, fX4 p1_cliffs_limit h_p1_cliffs_cells p1_cliffs_size)), (h_p1_cliffs_cells, .inl (cI, n_p1_cliffs_cells, .inl p1_cliffs_cells))]) (v := (some (.int r1))) ⟨hx, hb, hml, hown, hts⟩ (c_X4_cell l dC dI cI cZ te h_p1_boulders h_p1_boulders_cells p1_boulders_limit p1_boulders_size n_p1_boulders_cells p1_boulders_cells p2 (0 : Int32) r1 hg2) (cwV 2 hts (gV kw_671 kw_414 kw_415 kw_19 kw_416) rfl rfl rfl (by decide +kernel) ⟨Nat.le_of_ble_eq_true rfl, Nat.le_of_ble_eq_true rfl⟩) (kS_env te) hK hP hD hS hA hE [1, 2] [0, 3, 4, 5, 6, 7, 8, 9] [0, 8, 9, 1, 2, 3, 4, 5, 6, 7] rfl rfl (by decide) (by decide) (by decide) (by decide) rfl 1 4 rfl rfl rfl rfl hl.1 rfl (Nat.le_of_ble_eq_true rfl) dX7_nearestCliff_11 ⟨Nat.zero_le _, Nat.zero_le _⟩ (fun H locs hP hD hS => ?_)
  show W p l e rmX7_nearestCliff s m args below meth c H locs 0 0 Q (F0 m 14 ls [.int r1, .ref h_p1_surfaces, .ref h_t])
  obtain ⟨y3, y4, y5, hg6, hf⟩ := bd3_some hf
  refine CM_callV (C := RX7) (As := [.ref h_p1_surfaces, .int r1]) (rest := []) (wc := [(h_t, .inr (6, fX7 h_t_next h_t_stepsToGoal h_t_stepsFromEarlier)), (h_t_stepsToGoal, .inl (cI, 64, .inl t_stepsToGoal)), (h_p1_surfaces, .inl (cI, 192, .inl p1_surfaces)), (h_t_next, .inl (cI, 64, .inl t_next)), (h_t_stepsFromEarlier, .inl (cI, 64, .inl t_stepsFromEarlier))]) (w1 := [(h_t, .inr (6, fX7 h_t_next h_t_stepsToGoal h_t_stepsFromEarlier)), (h_t_stepsToGoal, .inl (cI, 64, .inl y3)), (h_p1_surfaces, .inl (cI, 192, .inl p1_surfaces)), (h_t_next, .inl (cI, 64, .inl y4)), (h_t_stepsFromEarlier, .inl (cI, 64, .inl y5))]) (wr := [(h_p1, .inr (1, fX1 h_p1_surfaces h_p1_cliffs h_p1_boulders h_p1_scratches h_p1_numbers h_p1_facts h_p1_signs h_p1_areas h_p1_heights p1_ridges)), (h_p1_boulders, .inr (4, fX4 p1_boulders_limit h_p1_boulders_cells p1_boulders_size)), (h_p1_boulders_cells, .inl (cI, n_p1_boulders_cells, .inl p1_boulders_cells)), (h_p1_cliffs, .inr (4, fX4 p1_cliffs_limit h_p1_cliffs_cells p1_cliffs_size)), (h_p1_cliffs_cells, .inl (cI, n_p1_cliffs_cells, .inl p1_cliffs_cells))]) (wo := [(h_p1, .inr (1, fX1 h_p1_surfaces h_p1_cliffs h_p1_boulders h_p1_scratches h_p1_numbers h_p1_facts h_p1_signs h_p1_areas h_p1_heights p1_ridges)), (h_p1_boulders, .inr (4, fX4 p1_boulders_limit h_p1_boulders_cells p1_boulders_size)), (h_p1_boulders_cells, .inl (cI, n_p1_boulders_cells, .inl p1_boulders_cells)), (h_t, .inr (6, fX7 h_t_next h_t_stepsToGoal h_t_stepsFromEarlier)), (h_t_stepsToGoal, .inl (cI, 64, .inl y3)), (h_p1_surfaces, .inl (cI, 192, .inl p1_surfaces)), (h_t_next, .inl (cI, 64, .inl y4)), (h_t_stepsFromEarlier, .inl (cI, 64, .inl y5)), (h_p1_cliffs, .inr (4, fX4 p1_cliffs_limit h_p1_cliffs_cells p1_cliffs_size)), (h_p1_cliffs_cells, .inl (cI, n_p1_cliffs_cells, .inl p1_cliffs_cells))]) (v := (none)) ⟨hx, hb, hml, hown, hts⟩ (c_X7_leadTo l dC dI cI cZ te h_t h_p1_surfaces h_t_next h_t_stepsToGoal h_t_stepsFromEarlier t_stepsToGoal (192) p1_surfaces t_next t_stepsFromEarlier r1 y3 y4 y5 hg6) (cwV 2 hts (gV kw_672 kw_673 kw_674 kw_81 kw_675) rfl rfl rfl (by decide +kernel) ⟨Nat.le_of_ble_eq_true rfl, Nat.le_of_ble_eq_true rfl⟩) (kS_env te) hK hP hD hS hA hE [3, 4, 5, 6, 7] [0, 1, 2, 8, 9] [0, 1, 2, 5, 6, 7, 8, 9, 3, 4] rfl rfl (by decide) (by decide) (by decide) (by decide) rfl 3 6 rfl rfl rfl rfl hl.1 rfl (Nat.le_of_ble_eq_true rfl) dX7_nearestCliff_14 ⟨Nat.zero_le _, Nat.zero_le _⟩ (fun H locs hP hD hS => ?_)
  show W p l e rmX7_nearestCliff s m args below meth c H locs 0 0 Q (F0 m 17 ls [])
  refine lv_iconst (v := (-1 : Int32)) hx hb dX7_nearestCliff_17 (by decide) ?_
  refine lv_istore_n (lv' := [(3, .int (-1 : Int32)), (0, .ref h_t), (1, .ref h_p1), (2, .int p2)]) hx hb dX7_nearestCliff_18 rfl hl (by decide) rfl (fun ls hl => ?_)
  refine lv_ldc (v := (1000000 : Int32)) hx hb hown (hts _ (List.mem_cons_of_mem _ kw_661)) dX7_nearestCliff_19 ?_
  refine lv_istore (lv' := [(4, .int (1000000 : Int32)), (3, .int (-1 : Int32)), (0, .ref h_t), (1, .ref h_p1), (2, .int p2)]) hx hb dX7_nearestCliff_21 hl (by decide) rfl (fun ls hl => ?_)
  refine lv_iconst (v := (0 : Int32)) hx hb dX7_nearestCliff_23 (by decide) ?_
  refine lv_istore (lv' := [(5, .int (0 : Int32)), (4, .int (1000000 : Int32)), (3, .int (-1 : Int32)), (0, .ref h_t), (1, .ref h_p1), (2, .int p2)]) hx hb dX7_nearestCliff_24 hl (by decide) rfl (fun ls hl => ?_)
  have L31 : ∀ (fu22 : Nat) (x18 : Int32) (x19 : Int32) (x20 : Int32) (x17 : Int32), f_X7_nearestCliff_L1 p1_cliffs_size n_p1_cliffs_cells p1_cliffs_cells p1_boulders_size n_p1_boulders_cells p1_boulders_cells y3 p2 fu22 x18 x19 x20 = some x17 → (∀ (H : Heap) (locs : List Loc), va_P (dC, dI) vwCl [(h_p1, .inr (1, fX1 h_p1_surfaces h_p1_cliffs h_p1_boulders h_p1_scratches h_p1_numbers h_p1_facts h_p1_signs h_p1_areas h_p1_heights p1_ridges)), (h_p1_boulders, .inr (4, fX4 p1_boulders_limit h_p1_boulders_cells p1_boulders_size)), (h_p1_boulders_cells, .inl (cI, n_p1_boulders_cells, .inl p1_boulders_cells)), (h_t, .inr (6, fX7 h_t_next h_t_stepsToGoal h_t_stepsFromEarlier)), (h_t_stepsToGoal, .inl (cI, 64, .inl y3)), (h_p1_surfaces, .inl (cI, 192, .inl p1_surfaces)), (h_t_next, .inl (cI, 64, .inl y4)), (h_t_stepsFromEarlier, .inl (cI, 64, .inl y5)), (h_p1_cliffs, .inr (4, fX4 p1_cliffs_limit h_p1_cliffs_cells p1_cliffs_size)), (h_p1_cliffs_cells, .inl (cI, n_p1_cliffs_cells, .inl p1_cliffs_cells))] H → va_D A [(h_p1, .inr (1, fX1 h_p1_surfaces h_p1_cliffs h_p1_boulders h_p1_scratches h_p1_numbers h_p1_facts h_p1_signs h_p1_areas h_p1_heights p1_ridges)), (h_p1_boulders, .inr (4, fX4 p1_boulders_limit h_p1_boulders_cells p1_boulders_size)), (h_p1_boulders_cells, .inl (cI, n_p1_boulders_cells, .inl p1_boulders_cells)), (h_t, .inr (6, fX7 h_t_next h_t_stepsToGoal h_t_stepsFromEarlier)), (h_t_stepsToGoal, .inl (cI, 64, .inl y3)), (h_p1_surfaces, .inl (cI, 192, .inl p1_surfaces)), (h_t_next, .inl (cI, 64, .inl y4)), (h_t_stepsFromEarlier, .inl (cI, 64, .inl y5)), (h_p1_cliffs, .inr (4, fX4 p1_cliffs_limit h_p1_cliffs_cells p1_cliffs_size)), (h_p1_cliffs_cells, .inl (cI, n_p1_cliffs_cells, .inl p1_cliffs_cells))] → va_S A s.heap H locs → ∀ ls : Array Slot, lv_has ls 7 [(3, .int x17)] → W p l e rmX7_nearestCliff s m args below meth c H locs 0 0 Q (F0 m 74 ls [])) → ∀ (H : Heap) (locs : List Loc), va_P (dC, dI) vwCl [(h_p1, .inr (1, fX1 h_p1_surfaces h_p1_cliffs h_p1_boulders h_p1_scratches h_p1_numbers h_p1_facts h_p1_signs h_p1_areas h_p1_heights p1_ridges)), (h_p1_boulders, .inr (4, fX4 p1_boulders_limit h_p1_boulders_cells p1_boulders_size)), (h_p1_boulders_cells, .inl (cI, n_p1_boulders_cells, .inl p1_boulders_cells)), (h_t, .inr (6, fX7 h_t_next h_t_stepsToGoal h_t_stepsFromEarlier)), (h_t_stepsToGoal, .inl (cI, 64, .inl y3)), (h_p1_surfaces, .inl (cI, 192, .inl p1_surfaces)), (h_t_next, .inl (cI, 64, .inl y4)), (h_t_stepsFromEarlier, .inl (cI, 64, .inl y5)), (h_p1_cliffs, .inr (4, fX4 p1_cliffs_limit h_p1_cliffs_cells p1_cliffs_size)), (h_p1_cliffs_cells, .inl (cI, n_p1_cliffs_cells, .inl p1_cliffs_cells))] H → va_D A [(h_p1, .inr (1, fX1 h_p1_surfaces h_p1_cliffs h_p1_boulders h_p1_scratches h_p1_numbers h_p1_facts h_p1_signs h_p1_areas h_p1_heights p1_ridges)), (h_p1_boulders, .inr (4, fX4 p1_boulders_limit h_p1_boulders_cells p1_boulders_size)), (h_p1_boulders_cells, .inl (cI, n_p1_boulders_cells, .inl p1_boulders_cells)), (h_t, .inr (6, fX7 h_t_next h_t_stepsToGoal h_t_stepsFromEarlier)), (h_t_stepsToGoal, .inl (cI, 64, .inl y3)), (h_p1_surfaces, .inl (cI, 192, .inl p1_surfaces)), (h_t_next, .inl (cI, 64, .inl y4)), (h_t_stepsFromEarlier, .inl (cI, 64, .inl y5)), (h_p1_cliffs, .inr (4, fX4 p1_cliffs_limit h_p1_cliffs_cells p1_cliffs_size)), (h_p1_cliffs_cells, .inl (cI, n_p1_cliffs_cells, .inl p1_cliffs_cells))] → va_S A s.heap H locs → ∀ ls : Array Slot, lv_has ls 7 [(0, .ref h_t), (1, .ref h_p1), (2, .int p2), (3, .int x18), (4, .int x19), (5, .int x20)] → W p l e rmX7_nearestCliff s m args below meth c H locs 0 0 Q (F0 m 26 ls []) := by
    intro fu22
    induction fu22 with
    | zero =>
      intro x18 x19 x20 x17 hf
      unfold f_X7_nearestCliff_L1 at hf
      exact none_ne hf
    | succ fu22 ih21 =>
      intro x18 x19 x20 x17 hf hX23 H locs hP hD hS ls hl
      unfold f_X7_nearestCliff_L1 at hf
      refine lv_iload hx hb dX7_nearestCliff_26 (lv_at hl 5 rfl) ?_
      refine lv_aload_n hx hb dX7_nearestCliff_28 rfl (lv_at hl 1 rfl) ?_
      refine va_get (D := (dC, dI)) (ci := 1) (v := .ref h_p1_cliffs) (C := RX1) (T := TX1) (N := 10) hx hb hts (in1 tw_X1) hown hK hP 0 rfl rfl 1 (by decide) (hts _ (List.mem_cons_of_mem _ kw_676)) (fun _ h9 => h9) rfl dX7_nearestCliff_29 ?_
      obtain ⟨r24, hg25, hf⟩ := bd1_some hf
      refine CM_callV (C := RX4) (As := []) (rest := [.int x20]) (wc := [(h_p1_cliffs, .inr (4, fX4 p1_cliffs_limit h_p1_cliffs_cells p1_cliffs_size))]) (w1 := [(h_p1_cliffs, .inr (4, fX4 p1_cliffs_limit h_p1_cliffs_cells p1_cliffs_size))]) (wr := [(h_p1, .inr (1, fX1 h_p1_surfaces h_p1_cliffs h_p1_boulders h_p1_scratches h_p1_numbers h_p1_facts h_p1_signs h_p1_areas h_p1_heights p1_ridges)), (h_p1_boulders, .inr (4, fX4 p1_boulders_limit h_p1_boulders_cells p1_boulders_size)), (h_p1_boulders_cells, .inl (cI, n_p1_boulders_cells, .inl p1_boulders_cells)), (h_t, .inr (6, fX7 h_t_next h_t_stepsToGoal h_t_stepsFromEarlier)), (h_t_stepsToGoal, .inl (cI, 64, .inl y3)), (h_p1_surfaces, .inl (cI, 192, .inl p1_surfaces)), (h_t_next, .inl (cI, 64, .inl y4)), (h_t_stepsFromEarlier, .inl (cI, 64, .inl y5)), (h_p1_cliffs_cells, .inl (cI, n_p1_cliffs_cells, .inl p1_cliffs_cells))]) (wo := [(h_p1, .inr (1, fX1 h_p1_surfaces h_p1_cliffs h_p1_boulders h_p1_scratches h_p1_numbers h_p1_facts h_p1_signs h_p1_areas h_p1_heights p1_ridges)), (h_p1_boulders, .inr (4, fX4 p1_boulders_limit h_p1_boulders_cells p1_boulders_size)), (h_p1_boulders_cells, .inl (cI, n_p1_boulders_cells, .inl p1_boulders_cells)), (h_t, .inr (6, fX7 h_t_next h_t_stepsToGoal h_t_stepsFromEarlier)), (h_t_stepsToGoal, .inl (cI, 64, .inl y3)), (h_p1_surfaces, .inl (cI, 192, .inl p1_surfaces)), (h_t_next, .inl (cI, 64, .inl y4)), (h_t_stepsFromEarlier, .inl (cI, 64, .inl y5)), (h_p1_cliffs, .inr (4, fX4 p1_cliffs_limit h_p1_cliffs_cells p1_cliffs_size)), (h_p1_cliffs_cells, .inl (cI, n_p1_cliffs_cells, .inl p1_cliffs_cells))]) (v := (some (.int r24))) ⟨hx, hb, hml, hown, hts⟩ (c_X4_size l dC dI cI cZ te h_p1_cliffs h_p1_cliffs_cells p1_cliffs_limit p1_cliffs_size r24 hg25) (cwV 0 hts (gV kw_681 kw_404 kw_405 kw_19 kw_406) rfl rfl rfl (by decide +kernel) ⟨Nat.le_of_ble_eq_true rfl, Nat.le_of_ble_eq_true rfl⟩) (kS_env te) hK hP hD hS hA hE [8] [0, 1, 2, 3, 4, 5, 6, 7, 9] [0, 1, 2, 3, 4, 5, 6, 7, 9, 8] rfl rfl (by decide) (by decide) (by decide) (by decide) rfl 8 4 rfl rfl rfl rfl hl.1 rfl (Nat.le_of_ble_eq_true rfl) dX7_nearestCliff_32 ⟨Nat.zero_le _, Nat.zero_le _⟩ (fun H locs hP hD hS => ?_)
      show W p l e rmX7_nearestCliff s m args below meth c H locs 0 0 Q (F0 m 35 ls [.int r24, .int x20])
      refine lv_icmp_ge (tgt := 74) hx hb dX7_nearestCliff_35 (by decide) (fun c26 => ?_) (fun c26 => ?_)
      · replace hf := ifp c26 hf
        obtain rfl := inj1 hf
        exact hX23 _ _ hP hD hS _ (lv_sub hl [3] rfl)
      · replace hf := ifn c26 hf
        refine lv_aload_n hx hb dX7_nearestCliff_38 rfl (lv_at hl 0 rfl) ?_
        refine lv_aload_n hx hb dX7_nearestCliff_39 rfl (lv_at hl 1 rfl) ?_
        refine lv_iload_n hx hb dX7_nearestCliff_40 rfl (lv_at hl 2 rfl) ?_
        refine lv_iload hx hb dX7_nearestCliff_41 (lv_at hl 5 rfl) ?_
        obtain ⟨r27, hg28, hf⟩ := bd1_some hf
        refine CM_callV (C := RX7) (As := [.ref h_p1, .int p2, .int x20]) (rest := []) (wc := [(h_p1, .inr (1, fX1 h_p1_surfaces h_p1_cliffs h_p1_boulders h_p1_scratches h_p1_numbers h_p1_facts h_p1_signs h_p1_areas h_p1_heights p1_ridges)), (h_p1_cliffs, .inr (4, fX4 p1_cliffs_limit h_p1_cliffs_cells p1_cliffs_size)), (h_p1_cliffs_cells, .inl (cI, n_p1_cliffs_cells, .inl p1_cliffs_cells)), (h_p1_boulders, .inr (4, fX4 p1_boulders_limit h_p1_boulders_cells p1_boulders_size)), (h_p1_boulders_cells, .inl (cI, n_p1_boulders_cells, .inl p1_boulders_cells)), (h_t, .inr (6, fX7 h_t_next h_t_stepsToGoal h_t_stepsFromEarlier)), (h_t_stepsToGoal, .inl (cI, 64, .inl y3))]) (w1 := [(h_p1, .inr (1, fX1 h_p1_surfaces h_p1_cliffs h_p1_boulders h_p1_scratches h_p1_numbers h_p1_facts h_p1_signs h_p1_areas h_p1_heights p1_ridges)), (h_p1_cliffs, .inr (4, fX4 p1_cliffs_limit h_p1_cliffs_cells p1_cliffs_size)), (h_p1_cliffs_cells, .inl (cI, n_p1_cliffs_cells, .inl p1_cliffs_cells)), (h_p1_boulders, .inr (4, fX4 p1_boulders_limit h_p1_boulders_cells p1_boulders_size)), (h_p1_boulders_cells, .inl (cI, n_p1_boulders_cells, .inl p1_boulders_cells)), (h_t, .inr (6, fX7 h_t_next h_t_stepsToGoal h_t_stepsFromEarlier)), (h_t_stepsToGoal, .inl (cI, 64, .inl y3))]) (wr := [(h_p1_surfaces, .inl (cI, 192, .inl p1_surfaces)), (h_t_next, .inl (cI, 64, .inl y4)), (h_t_stepsFromEarlier, .inl (cI, 64, .inl y5))]) (wo := [(h_p1, .inr (1, fX1 h_p1_surfaces h_p1_cliffs h_p1_boulders h_p1_scratches h_p1_numbers h_p1_facts h_p1_signs h_p1_areas h_p1_heights p1_ridges)), (h_p1_boulders, .inr (4, fX4 p1_boulders_limit h_p1_boulders_cells p1_boulders_size)), (h_p1_boulders_cells, .inl (cI, n_p1_boulders_cells, .inl p1_boulders_cells)), (h_t, .inr (6, fX7 h_t_next h_t_stepsToGoal h_t_stepsFromEarlier)), (h_t_stepsToGoal, .inl (cI, 64, .inl y3)), (h_p1_surfaces, .inl (cI, 192, .inl p1_surfaces)), (h_t_next, .inl (cI, 64, .inl y4)), (h_t_stepsFromEarlier, .inl (cI, 64, .inl y5)), (h_p1_cliffs, .inr (4, fX4 p1_cliffs_limit h_p1_cliffs_cells p1_cliffs_size)), (h_p1_cliffs_cells, .inl (cI, n_p1_cliffs_cells, .inl p1_cliffs_cells))]) (v := (some (.int r27))) ⟨hx, hb, hml, hown, hts⟩ (c_X7_stepsOfSort l dC dI cI cZ te h_t h_p1 h_p1_surfaces h_p1_cliffs h_p1_boulders h_p1_scratches h_p1_numbers h_p1_facts h_p1_signs h_p1_areas h_p1_heights h_p1_cliffs_cells h_p1_boulders_cells h_t_next h_t_stepsToGoal h_t_stepsFromEarlier p1_ridges p1_cliffs_limit p1_cliffs_size n_p1_cliffs_cells p1_cliffs_cells p1_boulders_limit p1_boulders_size n_p1_boulders_cells p1_boulders_cells y3 p2 x20 r27 hg28) (cwV 3 hts (gV kw_682 kw_683 kw_684 kw_81 kw_685) rfl rfl rfl (by decide +kernel) ⟨Nat.le_of_ble_eq_true rfl, Nat.le_of_ble_eq_true rfl⟩) (kS_env te) hK hP hD hS hA hE [0, 8, 9, 1, 2, 3, 4] [5, 6, 7] [3, 6, 7, 8, 9, 0, 1, 2, 4, 5] rfl rfl (by decide) (by decide) (by decide) (by decide) rfl 3 6 rfl rfl rfl rfl hl.1 rfl (Nat.le_of_ble_eq_true rfl) dX7_nearestCliff_43 ⟨Nat.zero_le _, Nat.zero_le _⟩ (fun H locs hP hD hS => ?_)
        show W p l e rmX7_nearestCliff s m args below meth c H locs 0 0 Q (F0 m 46 ls [.int r27])
        refine lv_istore (lv' := [(6, .int r27), (0, .ref h_t), (1, .ref h_p1), (2, .int p2), (3, .int x18), (4, .int x19), (5, .int x20)]) hx hb dX7_nearestCliff_46 hl (by decide) rfl (fun ls hl => ?_)
        refine lv_iload hx hb dX7_nearestCliff_48 (lv_at hl 0 rfl) ?_
        refine lv_iconst (v := (-1 : Int32)) hx hb dX7_nearestCliff_50 (by decide) ?_
        refine lv_icmp_eq (tgt := 68) hx hb dX7_nearestCliff_51 (by decide) (fun c29 => ?_) (fun c29 => ?_)
        · replace hf := ifp c29 hf
          refine lv_iinc (v := (x20 + (1 : Int32))) (lv' := [(5, .int (x20 + (1 : Int32))), (6, .int r27), (0, .ref h_t), (1, .ref h_p1), (2, .int p2), (3, .int x18), (4, .int x19)]) hx hb dX7_nearestCliff_68 hl (k := 6) rfl rfl (by decide) rfl (fun ls hl => ?_)
          refine lv_goto (tgt := 26) hx hb dX7_nearestCliff_71 (by decide) ?_
          exact ih21 _ _ _ _ hf hX23 _ _ hP hD hS _ (lv_sub hl [2, 3, 4, 5, 6, 0] rfl)
        · replace hf := ifn c29 hf
          refine lv_iload hx hb dX7_nearestCliff_54 (lv_at hl 0 rfl) ?_
          refine lv_iload hx hb dX7_nearestCliff_56 (lv_at hl 5 rfl) ?_
          refine lv_icmp_ge (tgt := 68) hx hb dX7_nearestCliff_58 (by decide) (fun c30 => ?_) (fun c30 => ?_)
          · replace hf := ifp c30 hf
            refine lv_iinc (v := (x20 + (1 : Int32))) (lv' := [(5, .int (x20 + (1 : Int32))), (6, .int r27), (0, .ref h_t), (1, .ref h_p1), (2, .int p2), (3, .int x18), (4, .int x19)]) hx hb dX7_nearestCliff_68 hl (k := 6) rfl rfl (by decide) rfl (fun ls hl => ?_)
            refine lv_goto (tgt := 26) hx hb dX7_nearestCliff_71 (by decide) ?_
            exact ih21 _ _ _ _ hf hX23 _ _ hP hD hS _ (lv_sub hl [2, 3, 4, 5, 6, 0] rfl)
          · replace hf := ifn c30 hf
            refine lv_iload hx hb dX7_nearestCliff_61 (lv_at hl 0 rfl) ?_
            refine lv_istore (lv' := [(4, .int r27), (6, .int r27), (0, .ref h_t), (1, .ref h_p1), (2, .int p2), (3, .int x18), (5, .int x20)]) hx hb dX7_nearestCliff_63 hl (by decide) rfl (fun ls hl => ?_)
            refine lv_iload hx hb dX7_nearestCliff_65 (lv_at hl 6 rfl) ?_
            refine lv_istore_n (lv' := [(3, .int x20), (4, .int r27), (6, .int r27), (0, .ref h_t), (1, .ref h_p1), (2, .int p2), (5, .int x20)]) hx hb dX7_nearestCliff_67 rfl hl (by decide) rfl (fun ls hl => ?_)
            refine lv_iinc (v := (x20 + (1 : Int32))) (lv' := [(5, .int (x20 + (1 : Int32))), (3, .int x20), (4, .int r27), (6, .int r27), (0, .ref h_t), (1, .ref h_p1), (2, .int p2)]) hx hb dX7_nearestCliff_68 hl (k := 6) rfl rfl (by decide) rfl (fun ls hl => ?_)
            refine lv_goto (tgt := 26) hx hb dX7_nearestCliff_71 (by decide) ?_
            exact ih21 _ _ _ _ hf hX23 _ _ hP hD hS _ (lv_sub hl [4, 5, 6, 1, 2, 0] rfl)
  obtain ⟨x17, hg, hf⟩ := bd1_some hf
  refine L31 FU _ _ _ _ hg ?_ _ _ hP hD hS _ (lv_sub hl [3, 4, 5, 2, 1, 0] rfl)
  · intro H locs hP hD hS ls hl
    refine lv_iload_n hx hb dX7_nearestCliff_74 rfl (lv_at hl 0 rfl) ?_
    obtain ⟨rfl, rfl, rfl, rfl⟩ := inj4 hf
    subst hQ
    exact CM_iret hx hb hr rfl hlocks hAe hP hD hS dX7_nearestCliff_75
def rmX7_placesAbove : Room := { frames := 3, cells := 0, slots := 0, locals := 74 }
abbrev wqX7_placesAbove : List Cond := Cond.code yX7_placesAbove cX7_placesAbove 5 (some .int) :: tG
set_option maxHeartbeats 4000000 in
set_option maxRecDepth 100000 in
theorem c_X7_placesAbove (l : Launch) (dC : Nat → ClassId) (dI : Nat → Nat → Nat) (cI cZ : ClassId) (te : Nat → Nat) (h_t : Nat) (h_p1 : Nat) (h_t_next : Nat) (h_t_stepsToGoal : Nat) (h_t_stepsFromEarlier : Nat) (t_stepsToGoal : Nat → Int32) (n_p1 : Nat) (p1 : Nat → Int32) (t_next : Nat → Int32) (t_stepsFromEarlier : Nat → Int32) (p2 : Int32) (o0 : Int32) (o1 : Nat → Int32) (o2 : Nat → Int32) (o3 : Nat → Int32) (hf : f_X7_placesAbove t_stepsToGoal n_p1 p1 t_next t_stepsFromEarlier p2 = some (o0, o1, o2, o3)) : CM l yX7_placesAbove wqX7_placesAbove rmX7_placesAbove (kS te) dC dI cI cZ [.ref h_t, .ref h_p1, .int p2] [(h_t, .inr (6, fX7 h_t_next h_t_stepsToGoal h_t_stepsFromEarlier)), (h_t_stepsToGoal, .inl (cI, 64, .inl t_stepsToGoal)), (h_p1, .inl (cI, n_p1, .inl p1)), (h_t_next, .inl (cI, 64, .inl t_next)), (h_t_stepsFromEarlier, .inl (cI, 64, .inl t_stepsFromEarlier))] [(h_t, .inr (6, fX7 h_t_next h_t_stepsToGoal h_t_stepsFromEarlier)), (h_t_stepsToGoal, .inl (cI, 64, .inl o1)), (h_p1, .inl (cI, n_p1, .inl p1)), (h_t_next, .inl (cI, 64, .inl o2)), (h_t_stepsFromEarlier, .inl (cI, 64, .inl o3))] (some (.int o0)) := by
  refine CM_of (cc := cX7_placesAbove) (maxL := 5) (ret := (some .int)) (by decide +kernel) rfl (Nat.le_of_ble_eq_true rfl) ?_
  intro p e s m args below meth c A Q hx hb hr hml hown hts hlocks hA hK hP hD hS hE hQ hAe ls hl
  have hown : s.vm.findClass RX7 = some m.cls := hown
  have hl : lv_has ls 5 [(0, .ref h_t), (1, .ref h_p1), (2, .int p2)] := hl
  unfold f_X7_placesAbove at hf
  refine lv_aload_n hx hb dX7_placesAbove_0 rfl (lv_at hl 0 rfl) ?_
  refine lv_aload_n hx hb dX7_placesAbove_1 rfl (lv_at hl 1 rfl) ?_
  refine lv_iload_n hx hb dX7_placesAbove_2 rfl (lv_at hl 2 rfl) ?_
  obtain ⟨y1, y2, y3, hg4, hf⟩ := bd3_some hf
  refine CM_callV (C := RX7) (As := [.ref h_p1, .int p2]) (rest := []) (wc := [(h_t, .inr (6, fX7 h_t_next h_t_stepsToGoal h_t_stepsFromEarlier)), (h_t_stepsToGoal, .inl (cI, 64, .inl t_stepsToGoal)), (h_p1, .inl (cI, n_p1, .inl p1)), (h_t_next, .inl (cI, 64, .inl t_next)), (h_t_stepsFromEarlier, .inl (cI, 64, .inl t_stepsFromEarlier))]) (w1 := [(h_t, .inr (6, fX7 h_t_next h_t_stepsToGoal h_t_stepsFromEarlier)), (h_t_stepsToGoal, .inl (cI, 64, .inl y1)), (h_p1, .inl (cI, n_p1, .inl p1)), (h_t_next, .inl (cI, 64, .inl y2)), (h_t_stepsFromEarlier, .inl (cI, 64, .inl y3))]) (wr := []) (wo := [(h_t, .inr (6, fX7 h_t_next h_t_stepsToGoal h_t_stepsFromEarlier)), (h_t_stepsToGoal, .inl (cI, 64, .inl y1)), (h_p1, .inl (cI, n_p1, .inl p1)), (h_t_next, .inl (cI, 64, .inl y2)), (h_t_stepsFromEarlier, .inl (cI, 64, .inl y3))]) (v := (none)) ⟨hx, hb, hml, hown, hts⟩ (c_X7_leadTo l dC dI cI cZ te h_t h_p1 h_t_next h_t_stepsToGoal h_t_stepsFromEarlier t_stepsToGoal n_p1 p1 t_next t_stepsFromEarlier p2 y1 y2 y3 hg4) (cwV 2 hts (gV kw_672 kw_673 kw_674 kw_81 kw_675) rfl rfl rfl (by decide +kernel) ⟨Nat.le_of_ble_eq_true rfl, Nat.le_of_ble_eq_true rfl⟩) (kS_env te) hK hP hD hS hA hE [0, 1, 2, 3, 4] [] [0, 1, 2, 3, 4] rfl rfl (by decide) (by decide) (by decide) (by decide) rfl 0 6 rfl rfl rfl rfl hl.1 rfl (Nat.le_of_ble_eq_true rfl) dX7_placesAbove_3 ⟨Nat.zero_le _, Nat.zero_le _⟩ (fun H locs hP hD hS => ?_)
  show W p l e rmX7_placesAbove s m args below meth c H locs 0 0 Q (F0 m 6 ls [])
  refine lv_iconst (v := (0 : Int32)) hx hb dX7_placesAbove_6 (by decide) ?_
  refine lv_istore_n (lv' := [(3, .int (0 : Int32)), (0, .ref h_t), (1, .ref h_p1), (2, .int p2)]) hx hb dX7_placesAbove_7 rfl hl (by decide) rfl (fun ls hl => ?_)
  refine lv_iconst (v := (0 : Int32)) hx hb dX7_placesAbove_8 (by decide) ?_
  refine lv_istore (lv' := [(4, .int (0 : Int32)), (3, .int (0 : Int32)), (0, .ref h_t), (1, .ref h_p1), (2, .int p2)]) hx hb dX7_placesAbove_9 hl (by decide) rfl (fun ls hl => ?_)
  have L21 : ∀ (fu15 : Nat) (x12 : Int32) (x13 : Int32) (x11 : Int32), f_X7_placesAbove_L1 y1 fu15 x12 x13 = some x11 → (∀ (H : Heap) (locs : List Loc), va_P (dC, dI) vwCl [(h_t, .inr (6, fX7 h_t_next h_t_stepsToGoal h_t_stepsFromEarlier)), (h_t_stepsToGoal, .inl (cI, 64, .inl y1)), (h_p1, .inl (cI, n_p1, .inl p1)), (h_t_next, .inl (cI, 64, .inl y2)), (h_t_stepsFromEarlier, .inl (cI, 64, .inl y3))] H → va_D A [(h_t, .inr (6, fX7 h_t_next h_t_stepsToGoal h_t_stepsFromEarlier)), (h_t_stepsToGoal, .inl (cI, 64, .inl y1)), (h_p1, .inl (cI, n_p1, .inl p1)), (h_t_next, .inl (cI, 64, .inl y2)), (h_t_stepsFromEarlier, .inl (cI, 64, .inl y3))] → va_S A s.heap H locs → ∀ ls : Array Slot, lv_has ls 5 [(3, .int x11)] → W p l e rmX7_placesAbove s m args below meth c H locs 0 0 Q (F0 m 37 ls [])) → ∀ (H : Heap) (locs : List Loc), va_P (dC, dI) vwCl [(h_t, .inr (6, fX7 h_t_next h_t_stepsToGoal h_t_stepsFromEarlier)), (h_t_stepsToGoal, .inl (cI, 64, .inl y1)), (h_p1, .inl (cI, n_p1, .inl p1)), (h_t_next, .inl (cI, 64, .inl y2)), (h_t_stepsFromEarlier, .inl (cI, 64, .inl y3))] H → va_D A [(h_t, .inr (6, fX7 h_t_next h_t_stepsToGoal h_t_stepsFromEarlier)), (h_t_stepsToGoal, .inl (cI, 64, .inl y1)), (h_p1, .inl (cI, n_p1, .inl p1)), (h_t_next, .inl (cI, 64, .inl y2)), (h_t_stepsFromEarlier, .inl (cI, 64, .inl y3))] → va_S A s.heap H locs → ∀ ls : Array Slot, lv_has ls 5 [(0, .ref h_t), (3, .int x12), (4, .int x13)] → W p l e rmX7_placesAbove s m args below meth c H locs 0 0 Q (F0 m 11 ls []) := by
    intro fu15
    induction fu15 with
    | zero =>
      intro x12 x13 x11 hf
      unfold f_X7_placesAbove_L1 at hf
      exact none_ne hf
    | succ fu15 ih14 =>
      intro x12 x13 x11 hf hX16 H locs hP hD hS ls hl
      unfold f_X7_placesAbove_L1 at hf
      refine lv_iload hx hb dX7_placesAbove_11 (lv_at hl 2 rfl) ?_
      refine lv_bipush (v := (64 : Int32)) hx hb dX7_placesAbove_13 (by decide) ?_
      refine lv_icmp_ge (tgt := 37) hx hb dX7_placesAbove_15 (by decide) (fun c17 => ?_) (fun c17 => ?_)
      · replace hf := ifp c17 hf
        obtain rfl := inj1 hf
        exact hX16 _ _ hP hD hS _ (lv_sub hl [1] rfl)
      · replace hf := ifn c17 hf
        refine lv_aload_n hx hb dX7_placesAbove_18 rfl (lv_at hl 0 rfl) ?_
        refine lv_iload hx hb dX7_placesAbove_19 (lv_at hl 2 rfl) ?_
        obtain ⟨r18, hg19, hf⟩ := bd1_some hf
        refine CM_callV (C := RX7) (As := [.int x13]) (rest := []) (wc := [(h_t, .inr (6, fX7 h_t_next h_t_stepsToGoal h_t_stepsFromEarlier)), (h_t_stepsToGoal, .inl (cI, 64, .inl y1))]) (w1 := [(h_t, .inr (6, fX7 h_t_next h_t_stepsToGoal h_t_stepsFromEarlier)), (h_t_stepsToGoal, .inl (cI, 64, .inl y1))]) (wr := [(h_p1, .inl (cI, n_p1, .inl p1)), (h_t_next, .inl (cI, 64, .inl y2)), (h_t_stepsFromEarlier, .inl (cI, 64, .inl y3))]) (wo := [(h_t, .inr (6, fX7 h_t_next h_t_stepsToGoal h_t_stepsFromEarlier)), (h_t_stepsToGoal, .inl (cI, 64, .inl y1)), (h_p1, .inl (cI, n_p1, .inl p1)), (h_t_next, .inl (cI, 64, .inl y2)), (h_t_stepsFromEarlier, .inl (cI, 64, .inl y3))]) (v := (some (.int r18))) ⟨hx, hb, hml, hown, hts⟩ (c_X7_stepsFrom l dC dI cI cZ te h_t h_t_next h_t_stepsToGoal h_t_stepsFromEarlier y1 x13 r18 hg19) (cwV 1 hts (gV kw_677 kw_678 kw_679 kw_81 kw_680) rfl rfl rfl (by decide +kernel) ⟨Nat.le_of_ble_eq_true rfl, Nat.le_of_ble_eq_true rfl⟩) (kS_env te) hK hP hD hS hA hE [0, 1] [2, 3, 4] [3, 4, 0, 1, 2] rfl rfl (by decide) (by decide) (by decide) (by decide) rfl 0 6 rfl rfl rfl rfl hl.1 rfl (Nat.le_of_ble_eq_true rfl) dX7_placesAbove_21 ⟨Nat.zero_le _, Nat.zero_le _⟩ (fun H locs hP hD hS => ?_)
        show W p l e rmX7_placesAbove s m args below meth c H locs 0 0 Q (F0 m 24 ls [.int r18])
        refine lv_iconst (v := (-1 : Int32)) hx hb dX7_placesAbove_24 (by decide) ?_
        refine lv_icmp_eq (tgt := 31) hx hb dX7_placesAbove_25 (by decide) (fun c20 => ?_) (fun c20 => ?_)
        · replace hf := ifp c20 hf
          refine lv_iinc (v := (x13 + (1 : Int32))) (lv' := [(4, .int (x13 + (1 : Int32))), (0, .ref h_t), (3, .int x12)]) hx hb dX7_placesAbove_31 hl (k := 2) rfl rfl (by decide) rfl (fun ls hl => ?_)
          refine lv_goto (tgt := 11) hx hb dX7_placesAbove_34 (by decide) ?_
          exact ih14 _ _ _ hf hX16 _ _ hP hD hS _ (lv_sub hl [1, 2, 0] rfl)
        · replace hf := ifn c20 hf
          refine lv_iinc (v := (x12 + (1 : Int32))) (lv' := [(3, .int (x12 + (1 : Int32))), (0, .ref h_t), (4, .int x13)]) hx hb dX7_placesAbove_28 hl (k := 1) rfl rfl (by decide) rfl (fun ls hl => ?_)
          refine lv_iinc (v := (x13 + (1 : Int32))) (lv' := [(4, .int (x13 + (1 : Int32))), (3, .int (x12 + (1 : Int32))), (0, .ref h_t)]) hx hb dX7_placesAbove_31 hl (k := 2) rfl rfl (by decide) rfl (fun ls hl => ?_)
          refine lv_goto (tgt := 11) hx hb dX7_placesAbove_34 (by decide) ?_
          exact ih14 _ _ _ hf hX16 _ _ hP hD hS _ (lv_sub hl [2, 1, 0] rfl)
  obtain ⟨x11, hg, hf⟩ := bd1_some hf
  refine L21 FU _ _ _ hg ?_ _ _ hP hD hS _ (lv_sub hl [2, 1, 0] rfl)
  · intro H locs hP hD hS ls hl
    refine lv_iload_n hx hb dX7_placesAbove_37 rfl (lv_at hl 0 rfl) ?_
    obtain ⟨rfl, rfl, rfl, rfl⟩ := inj4 hf
    subst hQ
    exact CM_iret hx hb hr rfl hlocks hAe hP hD hS dX7_placesAbove_38
def rmX8_standsAt : Room := { frames := 1, cells := 0, slots := 0, locals := 21 }
abbrev wqX8_standsAt : List Cond := Cond.code yX8_standsAt cX8_standsAt 6 (some .int) :: tG
set_option maxHeartbeats 4000000 in
set_option maxRecDepth 100000 in
theorem c_X8_standsAt (l : Launch) (dC : Nat → ClassId) (dI : Nat → Nat → Nat) (cI cZ : ClassId) (te : Nat → Nat) (h_p1 : Nat) (h_p1_surfaces : Nat) (h_p1_cliffs : Nat) (h_p1_boulders : Nat) (h_p1_scratches : Nat) (h_p1_numbers : Nat) (h_p1_facts : Nat) (h_p1_signs : Nat) (h_p1_areas : Nat) (h_p1_heights : Nat) (p1_ridges : Int32) (p1_numbers : Nat → Int32) (p1_heights : Nat → Int32) (p2 : Int32) (p3 : Int32) (o0 : Int32) (hf : f_X8_standsAt p1_numbers p1_heights p2 p3 = some o0) : CM l yX8_standsAt wqX8_standsAt rmX8_standsAt (kS te) dC dI cI cZ [.ref h_p1, .int p2, .int p3] [(h_p1, .inr (1, fX1 h_p1_surfaces h_p1_cliffs h_p1_boulders h_p1_scratches h_p1_numbers h_p1_facts h_p1_signs h_p1_areas h_p1_heights p1_ridges)), (h_p1_numbers, .inl (cI, 6, .inl p1_numbers)), (h_p1_heights, .inl (cI, 21, .inl p1_heights))] [(h_p1, .inr (1, fX1 h_p1_surfaces h_p1_cliffs h_p1_boulders h_p1_scratches h_p1_numbers h_p1_facts h_p1_signs h_p1_areas h_p1_heights p1_ridges)), (h_p1_numbers, .inl (cI, 6, .inl p1_numbers)), (h_p1_heights, .inl (cI, 21, .inl p1_heights))] (some (.int o0)) := by
  refine CM_of (cc := cX8_standsAt) (maxL := 6) (ret := (some .int)) (by decide +kernel) rfl (Nat.le_of_ble_eq_true rfl) ?_
  intro p e s m args below meth c A Q hx hb hr hml hown hts hlocks hA hK hP hD hS hE hQ hAe ls hl
  have hown : s.vm.findClass RX8 = some m.cls := hown
  have hl : lv_has ls 6 [(0, .ref h_p1), (1, .int p2), (2, .int p3)] := hl
  unfold f_X8_standsAt at hf
  refine lv_iconst (v := (-1 : Int32)) hx hb dX8_standsAt_0 (by decide) ?_
  refine lv_istore_n (lv' := [(3, .int (-1 : Int32)), (0, .ref h_p1), (1, .int p2), (2, .int p3)]) hx hb dX8_standsAt_1 rfl hl (by decide) rfl (fun ls hl => ?_)
  refine lv_iconst (v := (0 : Int32)) hx hb dX8_standsAt_2 (by decide) ?_
  refine lv_istore (lv' := [(4, .int (0 : Int32)), (3, .int (-1 : Int32)), (0, .ref h_p1), (1, .int p2), (2, .int p3)]) hx hb dX8_standsAt_3 hl (by decide) rfl (fun ls hl => ?_)
  refine lv_iconst (v := (0 : Int32)) hx hb dX8_standsAt_5 (by decide) ?_
  refine lv_istore (lv' := [(5, .int (0 : Int32)), (4, .int (0 : Int32)), (3, .int (-1 : Int32)), (0, .ref h_p1), (1, .int p2), (2, .int p3)]) hx hb dX8_standsAt_6 hl (by decide) rfl (fun ls hl => ?_)
  have L23 : ∀ (fu15 : Nat) (x11 : Int32) (x12 : Int32) (x13 : Int32) (x10 : Int32), f_X8_standsAt_L1 p3 p1_numbers p2 p1_heights fu15 x11 x12 x13 = some x10 → (∀ (H : Heap) (locs : List Loc), va_P (dC, dI) vwCl [(h_p1, .inr (1, fX1 h_p1_surfaces h_p1_cliffs h_p1_boulders h_p1_scratches h_p1_numbers h_p1_facts h_p1_signs h_p1_areas h_p1_heights p1_ridges)), (h_p1_numbers, .inl (cI, 6, .inl p1_numbers)), (h_p1_heights, .inl (cI, 21, .inl p1_heights))] H → va_D A [(h_p1, .inr (1, fX1 h_p1_surfaces h_p1_cliffs h_p1_boulders h_p1_scratches h_p1_numbers h_p1_facts h_p1_signs h_p1_areas h_p1_heights p1_ridges)), (h_p1_numbers, .inl (cI, 6, .inl p1_numbers)), (h_p1_heights, .inl (cI, 21, .inl p1_heights))] → va_S A s.heap H locs → ∀ ls : Array Slot, lv_has ls 6 [(3, .int x10)] → W p l e rmX8_standsAt s m args below meth c H locs 0 0 Q (F0 m 56 ls [])) → ∀ (H : Heap) (locs : List Loc), va_P (dC, dI) vwCl [(h_p1, .inr (1, fX1 h_p1_surfaces h_p1_cliffs h_p1_boulders h_p1_scratches h_p1_numbers h_p1_facts h_p1_signs h_p1_areas h_p1_heights p1_ridges)), (h_p1_numbers, .inl (cI, 6, .inl p1_numbers)), (h_p1_heights, .inl (cI, 21, .inl p1_heights))] H → va_D A [(h_p1, .inr (1, fX1 h_p1_surfaces h_p1_cliffs h_p1_boulders h_p1_scratches h_p1_numbers h_p1_facts h_p1_signs h_p1_areas h_p1_heights p1_ridges)), (h_p1_numbers, .inl (cI, 6, .inl p1_numbers)), (h_p1_heights, .inl (cI, 21, .inl p1_heights))] → va_S A s.heap H locs → ∀ ls : Array Slot, lv_has ls 6 [(0, .ref h_p1), (1, .int p2), (2, .int p3), (3, .int x11), (4, .int x12), (5, .int x13)] → W p l e rmX8_standsAt s m args below meth c H locs 0 0 Q (F0 m 8 ls []) := by
    intro fu15
    induction fu15 with
    | zero =>
      intro x11 x12 x13 x10 hf
      unfold f_X8_standsAt_L1 at hf
      exact none_ne hf
    | succ fu15 ih14 =>
      intro x11 x12 x13 x10 hf hX16 H locs hP hD hS ls hl
      unfold f_X8_standsAt_L1 at hf
      refine lv_iload hx hb dX8_standsAt_8 (lv_at hl 5 rfl) ?_
      refine lv_bipush (v := (21 : Int32)) hx hb dX8_standsAt_10 (by decide) ?_
      refine lv_icmp_ge (tgt := 56) hx hb dX8_standsAt_12 (by decide) (fun c17 => ?_) (fun c17 => ?_)
      · replace hf := ifp c17 hf
        obtain rfl := inj1 hf
        exact hX16 _ _ hP hD hS _ (lv_sub hl [3] rfl)
      · replace hf := ifn c17 hf
        refine lv_iload hx hb dX8_standsAt_15 (lv_at hl 4 rfl) ?_
        refine lv_iload_n hx hb dX8_standsAt_17 rfl (lv_at hl 2 rfl) ?_
        refine lv_aload_n hx hb dX8_standsAt_18 rfl (lv_at hl 0 rfl) ?_
        refine va_get (D := (dC, dI)) (ci := 1) (v := .ref h_p1_numbers) (C := RX1) (T := TX1) (N := 10) hx hb hts (in1 tw_X1) hown hK hP 0 rfl rfl 4 (by decide) (hts _ (List.mem_cons_of_mem _ kw_686)) (fun _ h9 => h9) rfl dX8_standsAt_19 ?_
        refine lv_iconst (v := (3 : Int32)) hx hb dX8_standsAt_22 (by decide) ?_
        obtain ⟨g18, hf⟩ := chk_some hf
        refine va_iald hx hb hK hP 1 0 rfl rfl (gin_in g18) dX8_standsAt_23 ?_
        refine lv_iconst (v := (0 : Int32)) hx hb dX8_standsAt_24 (by decide) ?_
        refine lv_iload_n hx hb dX8_standsAt_25 rfl (lv_at hl 1 rfl) ?_
        refine lv_aload_n hx hb dX8_standsAt_26 rfl (lv_at hl 0 rfl) ?_
        refine va_get (D := (dC, dI)) (ci := 1) (v := .ref h_p1_heights) (C := RX1) (T := TX1) (N := 10) hx hb hts (in1 tw_X1) hown hK hP 0 rfl rfl 8 (by decide) (hts _ (List.mem_cons_of_mem _ kw_687)) (fun _ h9 => h9) rfl dX8_standsAt_27 ?_
        refine lv_iload hx hb dX8_standsAt_30 (lv_at hl 5 rfl) ?_
        obtain ⟨g19, hf⟩ := chk_some hf
        refine va_iald hx hb hK hP 2 0 rfl rfl (gin_in g19) dX8_standsAt_32 ?_
        refine lv_isub hx hb dX8_standsAt_33 ?_
        refine va_mmax hx hb (hml.trans hl.1.symm) hown (hts _ (List.mem_cons_of_mem _ kw_688)) (hts _ (List.mem_cons_of_mem _ kw_8)) (hts _ (List.mem_cons_of_mem _ kw_5)) (hts _ (List.mem_cons_of_mem _ kw_9)) (Nat.le_of_ble_eq_true rfl) (Nat.le_of_ble_eq_true rfl) (Nat.zero_le _) (Nat.zero_le _) dX8_standsAt_34 ?_
        refine lv_imul hx hb dX8_standsAt_37 ?_
        refine lv_isub hx hb dX8_standsAt_38 ?_
        refine lv_iadd hx hb dX8_standsAt_39 ?_
        obtain ⟨x20, e21, hf⟩ := nm_some hf
        refine lv_tope e21 ?_
        refine lv_istore (lv' := [(4, .int x20), (0, .ref h_p1), (1, .int p2), (2, .int p3), (3, .int x11), (5, .int x13)]) hx hb dX8_standsAt_40 hl (by decide) rfl (fun ls hl => ?_)
        refine lv_iload hx hb dX8_standsAt_42 (lv_at hl 0 rfl) ?_
        refine lv_if_lt (tgt := 50) hx hb dX8_standsAt_44 (by decide) (fun c22 => ?_) (fun c22 => ?_)
        · replace hf := ifp c22 hf
          refine lv_iinc (v := (x13 + (1 : Int32))) (lv' := [(5, .int (x13 + (1 : Int32))), (4, .int x20), (0, .ref h_p1), (1, .int p2), (2, .int p3), (3, .int x11)]) hx hb dX8_standsAt_50 hl (k := 5) rfl rfl (by decide) rfl (fun ls hl => ?_)
          refine lv_goto (tgt := 8) hx hb dX8_standsAt_53 (by decide) ?_
          exact ih14 _ _ _ _ hf hX16 _ _ hP hD hS _ (lv_sub hl [2, 3, 4, 5, 1, 0] rfl)
        · replace hf := ifn c22 hf
          refine lv_iload hx hb dX8_standsAt_47 (lv_at hl 5 rfl) ?_
          refine lv_istore_n (lv' := [(3, .int x13), (4, .int x20), (0, .ref h_p1), (1, .int p2), (2, .int p3), (5, .int x13)]) hx hb dX8_standsAt_49 rfl hl (by decide) rfl (fun ls hl => ?_)
          refine lv_iinc (v := (x13 + (1 : Int32))) (lv' := [(5, .int (x13 + (1 : Int32))), (3, .int x13), (4, .int x20), (0, .ref h_p1), (1, .int p2), (2, .int p3)]) hx hb dX8_standsAt_50 hl (k := 5) rfl rfl (by decide) rfl (fun ls hl => ?_)
          refine lv_goto (tgt := 8) hx hb dX8_standsAt_53 (by decide) ?_
          exact ih14 _ _ _ _ hf hX16 _ _ hP hD hS _ (lv_sub hl [3, 4, 5, 1, 2, 0] rfl)
  obtain ⟨x10, hg, hf⟩ := bd1_some hf
  refine L23 FU _ _ _ _ hg ?_ _ _ hP hD hS _ (lv_sub hl [3, 4, 5, 2, 1, 0] rfl)
  · intro H locs hP hD hS ls hl
    refine lv_iload_n hx hb dX8_standsAt_56 rfl (lv_at hl 0 rfl) ?_
    obtain rfl := inj1 hf
    subst hQ
    exact CM_iret hx hb hr rfl hlocks hAe hP hD hS dX8_standsAt_57
def rmX8_leastFor : Room := { frames := 2, cells := 0, slots := 0, locals := 46 }
abbrev wqX8_leastFor : List Cond := Cond.code yX8_leastFor cX8_leastFor 4 (some .int) :: tG
set_option maxHeartbeats 4000000 in
set_option maxRecDepth 100000 in
theorem c_X8_leastFor (l : Launch) (dC : Nat → ClassId) (dI : Nat → Nat → Nat) (cI cZ : ClassId) (te : Nat → Nat) (h_p1 : Nat) (h_p1_surfaces : Nat) (h_p1_cliffs : Nat) (h_p1_boulders : Nat) (h_p1_scratches : Nat) (h_p1_numbers : Nat) (h_p1_facts : Nat) (h_p1_signs : Nat) (h_p1_areas : Nat) (h_p1_heights : Nat) (p1_ridges : Int32) (p1_numbers : Nat → Int32) (p1_heights : Nat → Int32) (p2 : Int32) (p3 : Int32) (o0 : Int32) (hf : f_X8_leastFor p1_numbers p1_heights p2 p3 = some o0) : CM l yX8_leastFor wqX8_leastFor rmX8_leastFor (kS te) dC dI cI cZ [.ref h_p1, .int p2, .int p3] [(h_p1, .inr (1, fX1 h_p1_surfaces h_p1_cliffs h_p1_boulders h_p1_scratches h_p1_numbers h_p1_facts h_p1_signs h_p1_areas h_p1_heights p1_ridges)), (h_p1_numbers, .inl (cI, 6, .inl p1_numbers)), (h_p1_heights, .inl (cI, 21, .inl p1_heights))] [(h_p1, .inr (1, fX1 h_p1_surfaces h_p1_cliffs h_p1_boulders h_p1_scratches h_p1_numbers h_p1_facts h_p1_signs h_p1_areas h_p1_heights p1_ridges)), (h_p1_numbers, .inl (cI, 6, .inl p1_numbers)), (h_p1_heights, .inl (cI, 21, .inl p1_heights))] (some (.int o0)) := by
  refine CM_of (cc := cX8_leastFor) (maxL := 4) (ret := (some .int)) (by decide +kernel) rfl (Nat.le_of_ble_eq_true rfl) ?_
  intro p e s m args below meth c A Q hx hb hr hml hown hts hlocks hA hK hP hD hS hE hQ hAe ls hl
  have hown : s.vm.findClass RX8 = some m.cls := hown
  have hl : lv_has ls 4 [(0, .ref h_p1), (1, .int p2), (2, .int p3)] := hl
  unfold f_X8_leastFor at hf
  refine lv_iconst (v := (0 : Int32)) hx hb dX8_leastFor_0 (by decide) ?_
  refine lv_istore_n (lv' := [(3, .int (0 : Int32)), (0, .ref h_p1), (1, .int p2), (2, .int p3)]) hx hb dX8_leastFor_1 rfl hl (by decide) rfl (fun ls hl => ?_)
  have L17 : ∀ (fu10 : Nat) (x8 : Int32) (q7 : Nat) (x6 : Int32), f_X8_leastFor_L1 p1_numbers p1_heights p3 p2 fu10 x8 = some (q7, x6) → (q7 = 0 → ∀ (H : Heap) (locs : List Loc), va_P (dC, dI) vwCl [(h_p1, .inr (1, fX1 h_p1_surfaces h_p1_cliffs h_p1_boulders h_p1_scratches h_p1_numbers h_p1_facts h_p1_signs h_p1_areas h_p1_heights p1_ridges)), (h_p1_numbers, .inl (cI, 6, .inl p1_numbers)), (h_p1_heights, .inl (cI, 21, .inl p1_heights))] H → va_D A [(h_p1, .inr (1, fX1 h_p1_surfaces h_p1_cliffs h_p1_boulders h_p1_scratches h_p1_numbers h_p1_facts h_p1_signs h_p1_areas h_p1_heights p1_ridges)), (h_p1_numbers, .inl (cI, 6, .inl p1_numbers)), (h_p1_heights, .inl (cI, 21, .inl p1_heights))] → va_S A s.heap H locs → ∀ ls : Array Slot, lv_has ls 4 [(3, .int x6)] → W p l e rmX8_leastFor s m args below meth c H locs 0 0 Q (F0 m 18 ls [])) → (q7 = 1 → ∀ (H : Heap) (locs : List Loc), va_P (dC, dI) vwCl [(h_p1, .inr (1, fX1 h_p1_surfaces h_p1_cliffs h_p1_boulders h_p1_scratches h_p1_numbers h_p1_facts h_p1_signs h_p1_areas h_p1_heights p1_ridges)), (h_p1_numbers, .inl (cI, 6, .inl p1_numbers)), (h_p1_heights, .inl (cI, 21, .inl p1_heights))] H → va_D A [(h_p1, .inr (1, fX1 h_p1_surfaces h_p1_cliffs h_p1_boulders h_p1_scratches h_p1_numbers h_p1_facts h_p1_signs h_p1_areas h_p1_heights p1_ridges)), (h_p1_numbers, .inl (cI, 6, .inl p1_numbers)), (h_p1_heights, .inl (cI, 21, .inl p1_heights))] → va_S A s.heap H locs → ∀ ls : Array Slot, lv_has ls 4 [] → W p l e rmX8_leastFor s m args below meth c H locs 0 0 Q (F0 m 26 ls [])) → ∀ (H : Heap) (locs : List Loc), va_P (dC, dI) vwCl [(h_p1, .inr (1, fX1 h_p1_surfaces h_p1_cliffs h_p1_boulders h_p1_scratches h_p1_numbers h_p1_facts h_p1_signs h_p1_areas h_p1_heights p1_ridges)), (h_p1_numbers, .inl (cI, 6, .inl p1_numbers)), (h_p1_heights, .inl (cI, 21, .inl p1_heights))] H → va_D A [(h_p1, .inr (1, fX1 h_p1_surfaces h_p1_cliffs h_p1_boulders h_p1_scratches h_p1_numbers h_p1_facts h_p1_signs h_p1_areas h_p1_heights p1_ridges)), (h_p1_numbers, .inl (cI, 6, .inl p1_numbers)), (h_p1_heights, .inl (cI, 21, .inl p1_heights))] → va_S A s.heap H locs → ∀ ls : Array Slot, lv_has ls 4 [(0, .ref h_p1), (1, .int p2), (2, .int p3), (3, .int x8)] → W p l e rmX8_leastFor s m args below meth c H locs 0 0 Q (F0 m 2 ls []) := by
    intro fu10
    induction fu10 with
    | zero =>
      intro x8 q7 x6 hf
      unfold f_X8_leastFor_L1 at hf
      exact none_ne hf
    | succ fu10 ih9 =>
      intro x8 q7 x6 hf hX11 hX12 H locs hP hD hS ls hl
      unfold f_X8_leastFor_L1 at hf
      refine lv_iload_n hx hb dX8_leastFor_2 rfl (lv_at hl 3 rfl) ?_
      refine lv_bipush (v := (60 : Int32)) hx hb dX8_leastFor_3 (by decide) ?_
      refine lv_icmp_gt (tgt := 26) hx hb dX8_leastFor_5 (by decide) (fun c13 => ?_) (fun c13 => ?_)
      · replace hf := ifp c13 hf
        obtain ⟨rfl, rfl⟩ := inj2 hf
        exact hX12 rfl _ _ hP hD hS _ (lv_sub hl [] rfl)
      · replace hf := ifn c13 hf
        refine lv_aload_n hx hb dX8_leastFor_8 rfl (lv_at hl 0 rfl) ?_
        refine lv_iload_n hx hb dX8_leastFor_9 rfl (lv_at hl 3 rfl) ?_
        refine lv_iload_n hx hb dX8_leastFor_10 rfl (lv_at hl 2 rfl) ?_
        obtain ⟨r14, hg15, hf⟩ := bd1_some hf
        refine CM_callS (As := [.ref h_p1, .int x8, .int p3]) (rest := []) (wc := [(h_p1, .inr (1, fX1 h_p1_surfaces h_p1_cliffs h_p1_boulders h_p1_scratches h_p1_numbers h_p1_facts h_p1_signs h_p1_areas h_p1_heights p1_ridges)), (h_p1_numbers, .inl (cI, 6, .inl p1_numbers)), (h_p1_heights, .inl (cI, 21, .inl p1_heights))]) (w1 := [(h_p1, .inr (1, fX1 h_p1_surfaces h_p1_cliffs h_p1_boulders h_p1_scratches h_p1_numbers h_p1_facts h_p1_signs h_p1_areas h_p1_heights p1_ridges)), (h_p1_numbers, .inl (cI, 6, .inl p1_numbers)), (h_p1_heights, .inl (cI, 21, .inl p1_heights))]) (wr := []) (wo := [(h_p1, .inr (1, fX1 h_p1_surfaces h_p1_cliffs h_p1_boulders h_p1_scratches h_p1_numbers h_p1_facts h_p1_signs h_p1_areas h_p1_heights p1_ridges)), (h_p1_numbers, .inl (cI, 6, .inl p1_numbers)), (h_p1_heights, .inl (cI, 21, .inl p1_heights))]) (v := (some (.int r14))) ⟨hx, hb, hml, hown, hts⟩ (c_X8_standsAt l dC dI cI cZ te h_p1 h_p1_surfaces h_p1_cliffs h_p1_boulders h_p1_scratches h_p1_numbers h_p1_facts h_p1_signs h_p1_areas h_p1_heights p1_ridges p1_numbers p1_heights x8 p3 r14 hg15) (va_cwS 3 hts (gS kw_689 kw_690 kw_691 kw_692) rfl rfl rfl (by decide +kernel) ⟨Nat.le_of_ble_eq_true rfl, Nat.le_of_ble_eq_true rfl⟩) (kS_env te) hK hP hD hS hA hE [0, 1, 2] [] [0, 1, 2] rfl rfl (by decide) (by decide) (by decide) (by decide) rfl rfl hl.1 rfl (Nat.le_of_ble_eq_true rfl) dX8_leastFor_11 ⟨Nat.zero_le _, Nat.zero_le _⟩ (fun H locs hP hD hS => ?_)
        show W p l e rmX8_leastFor s m args below meth c H locs 0 0 Q (F0 m 14 ls [.int r14])
        refine lv_iload_n hx hb dX8_leastFor_14 rfl (lv_at hl 1 rfl) ?_
        refine lv_icmp_ne (tgt := 20) hx hb dX8_leastFor_15 (by decide) (fun c16 => ?_) (fun c16 => ?_)
        · replace hf := ifn c16 hf
          refine lv_iinc (v := (x8 + (1 : Int32))) (lv' := [(3, .int (x8 + (1 : Int32))), (0, .ref h_p1), (1, .int p2), (2, .int p3)]) hx hb dX8_leastFor_20 hl (k := 3) rfl rfl (by decide) rfl (fun ls hl => ?_)
          refine lv_goto (tgt := 2) hx hb dX8_leastFor_23 (by decide) ?_
          exact ih9 _ _ _ hf hX11 hX12 _ _ hP hD hS _ (lv_sub hl [1, 2, 3, 0] rfl)
        · replace hf := ifp c16 hf
          obtain ⟨rfl, rfl⟩ := inj2 hf
          exact hX11 rfl _ _ hP hD hS _ (lv_sub hl [3] rfl)
  obtain ⟨q7, x6, hg, hf⟩ := bd2_some hf
  refine L17 FU _ _ _ hg ?_ ?_ _ _ hP hD hS _ (lv_sub hl [1, 2, 3, 0] rfl)
  · intro hq
    subst hq
    replace hf := ifp rfl hf
    intro H locs hP hD hS ls hl
    refine lv_iload_n hx hb dX8_leastFor_18 rfl (lv_at hl 0 rfl) ?_
    obtain rfl := inj1 hf
    subst hQ
    exact CM_iret hx hb hr rfl hlocks hAe hP hD hS dX8_leastFor_19
  · intro hq
    subst hq
    replace hf := ifn (by decide) hf
    intro H locs hP hD hS ls hl
    refine lv_iconst (v := (-1 : Int32)) hx hb dX8_leastFor_26 (by decide) ?_
    obtain rfl := inj1 hf
    subst hQ
    exact CM_iret hx hb hr rfl hlocks hAe hP hD hS dX8_leastFor_27
def rmX8_greatestFor : Room := { frames := 2, cells := 0, slots := 0, locals := 46 }
abbrev wqX8_greatestFor : List Cond := Cond.code yX8_greatestFor cX8_greatestFor 4 (some .int) :: tG
set_option maxHeartbeats 4000000 in
set_option maxRecDepth 100000 in
theorem c_X8_greatestFor (l : Launch) (dC : Nat → ClassId) (dI : Nat → Nat → Nat) (cI cZ : ClassId) (te : Nat → Nat) (h_p1 : Nat) (h_p1_surfaces : Nat) (h_p1_cliffs : Nat) (h_p1_boulders : Nat) (h_p1_scratches : Nat) (h_p1_numbers : Nat) (h_p1_facts : Nat) (h_p1_signs : Nat) (h_p1_areas : Nat) (h_p1_heights : Nat) (p1_ridges : Int32) (p1_numbers : Nat → Int32) (p1_heights : Nat → Int32) (p2 : Int32) (p3 : Int32) (o0 : Int32) (hf : f_X8_greatestFor p1_numbers p1_heights p2 p3 = some o0) : CM l yX8_greatestFor wqX8_greatestFor rmX8_greatestFor (kS te) dC dI cI cZ [.ref h_p1, .int p2, .int p3] [(h_p1, .inr (1, fX1 h_p1_surfaces h_p1_cliffs h_p1_boulders h_p1_scratches h_p1_numbers h_p1_facts h_p1_signs h_p1_areas h_p1_heights p1_ridges)), (h_p1_numbers, .inl (cI, 6, .inl p1_numbers)), (h_p1_heights, .inl (cI, 21, .inl p1_heights))] [(h_p1, .inr (1, fX1 h_p1_surfaces h_p1_cliffs h_p1_boulders h_p1_scratches h_p1_numbers h_p1_facts h_p1_signs h_p1_areas h_p1_heights p1_ridges)), (h_p1_numbers, .inl (cI, 6, .inl p1_numbers)), (h_p1_heights, .inl (cI, 21, .inl p1_heights))] (some (.int o0)) := by
  refine CM_of (cc := cX8_greatestFor) (maxL := 4) (ret := (some .int)) (by decide +kernel) rfl (Nat.le_of_ble_eq_true rfl) ?_
  intro p e s m args below meth c A Q hx hb hr hml hown hts hlocks hA hK hP hD hS hE hQ hAe ls hl
  have hown : s.vm.findClass RX8 = some m.cls := hown
  have hl : lv_has ls 4 [(0, .ref h_p1), (1, .int p2), (2, .int p3)] := hl
  unfold f_X8_greatestFor at hf
  refine lv_bipush (v := (60 : Int32)) hx hb dX8_greatestFor_0 (by decide) ?_
  refine lv_istore_n (lv' := [(3, .int (60 : Int32)), (0, .ref h_p1), (1, .int p2), (2, .int p3)]) hx hb dX8_greatestFor_2 rfl hl (by decide) rfl (fun ls hl => ?_)
  have L17 : ∀ (fu10 : Nat) (x8 : Int32) (q7 : Nat) (x6 : Int32), f_X8_greatestFor_L1 p1_numbers p1_heights p3 p2 fu10 x8 = some (q7, x6) → (q7 = 0 → ∀ (H : Heap) (locs : List Loc), va_P (dC, dI) vwCl [(h_p1, .inr (1, fX1 h_p1_surfaces h_p1_cliffs h_p1_boulders h_p1_scratches h_p1_numbers h_p1_facts h_p1_signs h_p1_areas h_p1_heights p1_ridges)), (h_p1_numbers, .inl (cI, 6, .inl p1_numbers)), (h_p1_heights, .inl (cI, 21, .inl p1_heights))] H → va_D A [(h_p1, .inr (1, fX1 h_p1_surfaces h_p1_cliffs h_p1_boulders h_p1_scratches h_p1_numbers h_p1_facts h_p1_signs h_p1_areas h_p1_heights p1_ridges)), (h_p1_numbers, .inl (cI, 6, .inl p1_numbers)), (h_p1_heights, .inl (cI, 21, .inl p1_heights))] → va_S A s.heap H locs → ∀ ls : Array Slot, lv_has ls 4 [(3, .int x6)] → W p l e rmX8_greatestFor s m args below meth c H locs 0 0 Q (F0 m 17 ls [])) → (q7 = 1 → ∀ (H : Heap) (locs : List Loc), va_P (dC, dI) vwCl [(h_p1, .inr (1, fX1 h_p1_surfaces h_p1_cliffs h_p1_boulders h_p1_scratches h_p1_numbers h_p1_facts h_p1_signs h_p1_areas h_p1_heights p1_ridges)), (h_p1_numbers, .inl (cI, 6, .inl p1_numbers)), (h_p1_heights, .inl (cI, 21, .inl p1_heights))] H → va_D A [(h_p1, .inr (1, fX1 h_p1_surfaces h_p1_cliffs h_p1_boulders h_p1_scratches h_p1_numbers h_p1_facts h_p1_signs h_p1_areas h_p1_heights p1_ridges)), (h_p1_numbers, .inl (cI, 6, .inl p1_numbers)), (h_p1_heights, .inl (cI, 21, .inl p1_heights))] → va_S A s.heap H locs → ∀ ls : Array Slot, lv_has ls 4 [] → W p l e rmX8_greatestFor s m args below meth c H locs 0 0 Q (F0 m 25 ls [])) → ∀ (H : Heap) (locs : List Loc), va_P (dC, dI) vwCl [(h_p1, .inr (1, fX1 h_p1_surfaces h_p1_cliffs h_p1_boulders h_p1_scratches h_p1_numbers h_p1_facts h_p1_signs h_p1_areas h_p1_heights p1_ridges)), (h_p1_numbers, .inl (cI, 6, .inl p1_numbers)), (h_p1_heights, .inl (cI, 21, .inl p1_heights))] H → va_D A [(h_p1, .inr (1, fX1 h_p1_surfaces h_p1_cliffs h_p1_boulders h_p1_scratches h_p1_numbers h_p1_facts h_p1_signs h_p1_areas h_p1_heights p1_ridges)), (h_p1_numbers, .inl (cI, 6, .inl p1_numbers)), (h_p1_heights, .inl (cI, 21, .inl p1_heights))] → va_S A s.heap H locs → ∀ ls : Array Slot, lv_has ls 4 [(0, .ref h_p1), (1, .int p2), (2, .int p3), (3, .int x8)] → W p l e rmX8_greatestFor s m args below meth c H locs 0 0 Q (F0 m 3 ls []) := by
    intro fu10
    induction fu10 with
    | zero =>
      intro x8 q7 x6 hf
      unfold f_X8_greatestFor_L1 at hf
      exact none_ne hf
    | succ fu10 ih9 =>
      intro x8 q7 x6 hf hX11 hX12 H locs hP hD hS ls hl
      unfold f_X8_greatestFor_L1 at hf
      refine lv_iload_n hx hb dX8_greatestFor_3 rfl (lv_at hl 3 rfl) ?_
      refine lv_if_lt (tgt := 25) hx hb dX8_greatestFor_4 (by decide) (fun c13 => ?_) (fun c13 => ?_)
      · replace hf := ifp c13 hf
        obtain ⟨rfl, rfl⟩ := inj2 hf
        exact hX12 rfl _ _ hP hD hS _ (lv_sub hl [] rfl)
      · replace hf := ifn c13 hf
        refine lv_aload_n hx hb dX8_greatestFor_7 rfl (lv_at hl 0 rfl) ?_
        refine lv_iload_n hx hb dX8_greatestFor_8 rfl (lv_at hl 3 rfl) ?_
        refine lv_iload_n hx hb dX8_greatestFor_9 rfl (lv_at hl 2 rfl) ?_
        obtain ⟨r14, hg15, hf⟩ := bd1_some hf
        refine CM_callS (As := [.ref h_p1, .int x8, .int p3]) (rest := []) (wc := [(h_p1, .inr (1, fX1 h_p1_surfaces h_p1_cliffs h_p1_boulders h_p1_scratches h_p1_numbers h_p1_facts h_p1_signs h_p1_areas h_p1_heights p1_ridges)), (h_p1_numbers, .inl (cI, 6, .inl p1_numbers)), (h_p1_heights, .inl (cI, 21, .inl p1_heights))]) (w1 := [(h_p1, .inr (1, fX1 h_p1_surfaces h_p1_cliffs h_p1_boulders h_p1_scratches h_p1_numbers h_p1_facts h_p1_signs h_p1_areas h_p1_heights p1_ridges)), (h_p1_numbers, .inl (cI, 6, .inl p1_numbers)), (h_p1_heights, .inl (cI, 21, .inl p1_heights))]) (wr := []) (wo := [(h_p1, .inr (1, fX1 h_p1_surfaces h_p1_cliffs h_p1_boulders h_p1_scratches h_p1_numbers h_p1_facts h_p1_signs h_p1_areas h_p1_heights p1_ridges)), (h_p1_numbers, .inl (cI, 6, .inl p1_numbers)), (h_p1_heights, .inl (cI, 21, .inl p1_heights))]) (v := (some (.int r14))) ⟨hx, hb, hml, hown, hts⟩ (c_X8_standsAt l dC dI cI cZ te h_p1 h_p1_surfaces h_p1_cliffs h_p1_boulders h_p1_scratches h_p1_numbers h_p1_facts h_p1_signs h_p1_areas h_p1_heights p1_ridges p1_numbers p1_heights x8 p3 r14 hg15) (va_cwS 3 hts (gS kw_689 kw_690 kw_691 kw_692) rfl rfl rfl (by decide +kernel) ⟨Nat.le_of_ble_eq_true rfl, Nat.le_of_ble_eq_true rfl⟩) (kS_env te) hK hP hD hS hA hE [0, 1, 2] [] [0, 1, 2] rfl rfl (by decide) (by decide) (by decide) (by decide) rfl rfl hl.1 rfl (Nat.le_of_ble_eq_true rfl) dX8_greatestFor_10 ⟨Nat.zero_le _, Nat.zero_le _⟩ (fun H locs hP hD hS => ?_)
        show W p l e rmX8_greatestFor s m args below meth c H locs 0 0 Q (F0 m 13 ls [.int r14])
        refine lv_iload_n hx hb dX8_greatestFor_13 rfl (lv_at hl 1 rfl) ?_
        refine lv_icmp_ne (tgt := 19) hx hb dX8_greatestFor_14 (by decide) (fun c16 => ?_) (fun c16 => ?_)
        · replace hf := ifn c16 hf
          refine lv_iinc (v := (x8 + (-1 : Int32))) (lv' := [(3, .int (x8 + (-1 : Int32))), (0, .ref h_p1), (1, .int p2), (2, .int p3)]) hx hb dX8_greatestFor_19 hl (k := 3) rfl rfl (by decide) rfl (fun ls hl => ?_)
          refine lv_goto (tgt := 3) hx hb dX8_greatestFor_22 (by decide) ?_
          exact ih9 _ _ _ hf hX11 hX12 _ _ hP hD hS _ (lv_sub hl [1, 2, 3, 0] rfl)
        · replace hf := ifp c16 hf
          obtain ⟨rfl, rfl⟩ := inj2 hf
          exact hX11 rfl _ _ hP hD hS _ (lv_sub hl [3] rfl)
  obtain ⟨q7, x6, hg, hf⟩ := bd2_some hf
  refine L17 FU _ _ _ hg ?_ ?_ _ _ hP hD hS _ (lv_sub hl [1, 2, 3, 0] rfl)
  · intro hq
    subst hq
    replace hf := ifp rfl hf
    intro H locs hP hD hS ls hl
    refine lv_iload_n hx hb dX8_greatestFor_17 rfl (lv_at hl 0 rfl) ?_
    obtain rfl := inj1 hf
    subst hQ
    exact CM_iret hx hb hr rfl hlocks hAe hP hD hS dX8_greatestFor_18
  · intro hq
    subst hq
    replace hf := ifn (by decide) hf
    intro H locs hP hD hS ls hl
    refine lv_iconst (v := (-1 : Int32)) hx hb dX8_greatestFor_25 (by decide) ?_
    obtain rfl := inj1 hf
    subst hQ
    exact CM_iret hx hb hr rfl hlocks hAe hP hD hS dX8_greatestFor_26
def rmX9_within : Room := { frames := 0, cells := 0, slots := 0, locals := 0 }
abbrev wqX9_within : List Cond := Cond.code yX9_within cX9_within 3 (some .boolean) :: tG
set_option maxHeartbeats 4000000 in
set_option maxRecDepth 100000 in
theorem c_X9_within (l : Launch) (dC : Nat → ClassId) (dI : Nat → Nat → Nat) (cI cZ : ClassId) (te : Nat → Nat) (p1 : Int32) (p2 : Int32) (p3 : Int32) (o0 : Int32) (hf : f_X9_within p1 p2 p3 = some o0) : CM l yX9_within wqX9_within rmX9_within (kS te) dC dI cI cZ [.int p1, .int p2, .int p3] [] [] (some (.int o0)) := by
  refine CM_of (cc := cX9_within) (maxL := 3) (ret := (some .boolean)) (by decide +kernel) rfl (Nat.le_of_ble_eq_true rfl) ?_
  intro p e s m args below meth c A Q hx hb hr hml hown hts hlocks hA hK hP hD hS hE hQ hAe ls hl
  have hown : s.vm.findClass RX9 = some m.cls := hown
  have hl : lv_has ls 3 [(0, .int p1), (1, .int p2), (2, .int p3)] := hl
  unfold f_X9_within at hf
  refine lv_iload_n hx hb dX9_within_0 rfl (lv_at hl 0 rfl) ?_
  refine lv_iload_n hx hb dX9_within_1 rfl (lv_at hl 1 rfl) ?_
  refine lv_icmp_lt (tgt := 14) hx hb dX9_within_2 (by decide) (fun c1 => ?_) (fun c1 => ?_)
  · replace hf := ifp c1 hf
    refine lv_iconst (v := (0 : Int32)) hx hb dX9_within_14 (by decide) ?_
    obtain rfl := inj1 hf
    subst hQ
    exact CM_iret hx hb hr rfl hlocks hAe hP hD hS dX9_within_15
  · replace hf := ifn c1 hf
    refine lv_iload_n hx hb dX9_within_5 rfl (lv_at hl 0 rfl) ?_
    refine lv_iload_n hx hb dX9_within_6 rfl (lv_at hl 2 rfl) ?_
    refine lv_icmp_gt (tgt := 14) hx hb dX9_within_7 (by decide) (fun c2 => ?_) (fun c2 => ?_)
    · replace hf := ifp c2 hf
      refine lv_iconst (v := (0 : Int32)) hx hb dX9_within_14 (by decide) ?_
      obtain rfl := inj1 hf
      subst hQ
      exact CM_iret hx hb hr rfl hlocks hAe hP hD hS dX9_within_15
    · replace hf := ifn c2 hf
      refine lv_iconst (v := (1 : Int32)) hx hb dX9_within_10 (by decide) ?_
      refine lv_goto (tgt := 15) hx hb dX9_within_11 (by decide) ?_
      obtain rfl := inj1 hf
      subst hQ
      exact CM_iret hx hb hr rfl hlocks hAe hP hD hS dX9_within_15
def rmX9_isStage : Room := { frames := 1, cells := 0, slots := 0, locals := 22 }
abbrev wqX9_isStage : List Cond := Cond.code yX9_isStage cX9_isStage 1 (some .boolean) :: tG
set_option maxHeartbeats 4000000 in
set_option maxRecDepth 100000 in
theorem c_X9_isStage (l : Launch) (dC : Nat → ClassId) (dI : Nat → Nat → Nat) (cI cZ : ClassId) (te : Nat → Nat) (p1 : Int32) (o0 : Int32) (hf : f_X9_isStage p1 = some o0) : CM l yX9_isStage wqX9_isStage rmX9_isStage (kS te) dC dI cI cZ [.int p1] [] [] (some (.int o0)) := by
  refine CM_of (cc := cX9_isStage) (maxL := 1) (ret := (some .boolean)) (by decide +kernel) rfl (Nat.le_of_ble_eq_true rfl) ?_
  intro p e s m args below meth c A Q hx hb hr hml hown hts hlocks hA hK hP hD hS hE hQ hAe ls hl
  have hown : s.vm.findClass RX9 = some m.cls := hown
  have hl : lv_has ls 1 [(0, .int p1)] := hl
  unfold f_X9_isStage at hf
  refine lv_iload_n hx hb dX9_isStage_0 rfl (lv_at hl 0 rfl) ?_
  refine lv_iconst (v := (0 : Int32)) hx hb dX9_isStage_1 (by decide) ?_
  refine lv_iconst (v := (2 : Int32)) hx hb dX9_isStage_2 (by decide) ?_
  obtain ⟨r1, hg2, hf⟩ := bd1_some hf
  refine CM_callS (As := [.int p1, .int (0 : Int32), .int (2 : Int32)]) (rest := []) (wc := []) (w1 := []) (wr := []) (wo := []) (v := (some (.int r1))) ⟨hx, hb, hml, hown, hts⟩ (c_X9_within l dC dI cI cZ te p1 (0 : Int32) (2 : Int32) r1 hg2) (va_cwS 3 hts (gS kw_693 kw_694 kw_695 kw_696) rfl rfl rfl (by decide +kernel) ⟨Nat.le_of_ble_eq_true rfl, Nat.le_of_ble_eq_true rfl⟩) (kS_env te) hK hP hD hS hA hE [] [] [] rfl rfl (by decide) (by decide) (by decide) (by decide) rfl rfl hl.1 rfl (Nat.le_of_ble_eq_true rfl) dX9_isStage_3 ⟨Nat.zero_le _, Nat.zero_le _⟩ (fun H locs hP hD hS => ?_)
  show W p l e rmX9_isStage s m args below meth c H locs 0 0 Q (F0 m 6 ls [.int r1])
  obtain ⟨g3, hf⟩ := chk_some hf
  obtain rfl := inj1 hf
  subst hQ
  exact CM_iret hx hb hr (gz_n g3) hlocks hAe hP hD hS dX9_isStage_6
def rmX9_isPlace : Room := { frames := 1, cells := 0, slots := 0, locals := 22 }
abbrev wqX9_isPlace : List Cond := Cond.code yX9_isPlace cX9_isPlace 1 (some .boolean) :: tG
set_option maxHeartbeats 4000000 in
set_option maxRecDepth 100000 in
theorem c_X9_isPlace (l : Launch) (dC : Nat → ClassId) (dI : Nat → Nat → Nat) (cI cZ : ClassId) (te : Nat → Nat) (p1 : Int32) (o0 : Int32) (hf : f_X9_isPlace p1 = some o0) : CM l yX9_isPlace wqX9_isPlace rmX9_isPlace (kS te) dC dI cI cZ [.int p1] [] [] (some (.int o0)) := by
  refine CM_of (cc := cX9_isPlace) (maxL := 1) (ret := (some .boolean)) (by decide +kernel) rfl (Nat.le_of_ble_eq_true rfl) ?_
  intro p e s m args below meth c A Q hx hb hr hml hown hts hlocks hA hK hP hD hS hE hQ hAe ls hl
  have hown : s.vm.findClass RX9 = some m.cls := hown
  have hl : lv_has ls 1 [(0, .int p1)] := hl
  unfold f_X9_isPlace at hf
  refine lv_iload_n hx hb dX9_isPlace_0 rfl (lv_at hl 0 rfl) ?_
  refine lv_iconst (v := (0 : Int32)) hx hb dX9_isPlace_1 (by decide) ?_
  refine lv_bipush (v := (63 : Int32)) hx hb dX9_isPlace_2 (by decide) ?_
  obtain ⟨r1, hg2, hf⟩ := bd1_some hf
  refine CM_callS (As := [.int p1, .int (0 : Int32), .int (63 : Int32)]) (rest := []) (wc := []) (w1 := []) (wr := []) (wo := []) (v := (some (.int r1))) ⟨hx, hb, hml, hown, hts⟩ (c_X9_within l dC dI cI cZ te p1 (0 : Int32) (63 : Int32) r1 hg2) (va_cwS 3 hts (gS kw_693 kw_694 kw_695 kw_696) rfl rfl rfl (by decide +kernel) ⟨Nat.le_of_ble_eq_true rfl, Nat.le_of_ble_eq_true rfl⟩) (kS_env te) hK hP hD hS hA hE [] [] [] rfl rfl (by decide) (by decide) (by decide) (by decide) rfl rfl hl.1 rfl (Nat.le_of_ble_eq_true rfl) dX9_isPlace_4 ⟨Nat.zero_le _, Nat.zero_le _⟩ (fun H locs hP hD hS => ?_)
  show W p l e rmX9_isPlace s m args below meth c H locs 0 0 Q (F0 m 7 ls [.int r1])
  obtain ⟨g3, hf⟩ := chk_some hf
  obtain rfl := inj1 hf
  subst hQ
  exact CM_iret hx hb hr (gz_n g3) hlocks hAe hP hD hS dX9_isPlace_7
def rmX9_exchange : Room := { frames := 0, cells := 0, slots := 0, locals := 0 }
abbrev wqX9_exchange : List Cond := Cond.code yX9_exchange cX9_exchange 4 (some .int) :: tG
set_option maxHeartbeats 4000000 in
set_option maxRecDepth 100000 in
theorem c_X9_exchange (l : Launch) (dC : Nat → ClassId) (dI : Nat → Nat → Nat) (cI cZ : ClassId) (te : Nat → Nat) (h_p1 : Nat) (n_p1 : Nat) (p1 : Nat → Int32) (p2 : Int32) (p3 : Int32) (o0 : Int32) (o1 : Nat → Int32) (hf : f_X9_exchange n_p1 p1 p2 p3 = some (o0, o1)) : CM l yX9_exchange wqX9_exchange rmX9_exchange (kS te) dC dI cI cZ [.ref h_p1, .int p2, .int p3] [(h_p1, .inl (cI, n_p1, .inl p1))] [(h_p1, .inl (cI, n_p1, .inl o1))] (some (.int o0)) := by
  refine CM_of (cc := cX9_exchange) (maxL := 4) (ret := (some .int)) (by decide +kernel) rfl (Nat.le_of_ble_eq_true rfl) ?_
  intro p e s m args below meth c A Q hx hb hr hml hown hts hlocks hA hK hP hD hS hE hQ hAe ls hl
  have hown : s.vm.findClass RX9 = some m.cls := hown
  have hl : lv_has ls 4 [(0, .ref h_p1), (1, .int p2), (2, .int p3)] := hl
  unfold f_X9_exchange at hf
  refine lv_iload_n hx hb dX9_exchange_0 rfl (lv_at hl 1 rfl) ?_
  refine lv_if_lt (tgt := 10) hx hb dX9_exchange_1 (by decide) (fun c1 => ?_) (fun c1 => ?_)
  · replace hf := ifp c1 hf
    refine lv_bipush (v := (-2 : Int32)) hx hb dX9_exchange_10 (by decide) ?_
    obtain ⟨rfl, rfl⟩ := inj2 hf
    subst hQ
    exact CM_iret hx hb hr rfl hlocks hAe hP hD hS dX9_exchange_12
  · replace hf := ifn c1 hf
    refine lv_iload_n hx hb dX9_exchange_4 rfl (lv_at hl 1 rfl) ?_
    refine lv_aload_n hx hb dX9_exchange_5 rfl (lv_at hl 0 rfl) ?_
    refine va_alen hx hb hK hP 0 0 rfl rfl (v := (Int32.ofNat n_p1)) rfl dX9_exchange_6 ?_
    refine lv_icmp_lt (tgt := 13) hx hb dX9_exchange_7 (by decide) (fun c2 => ?_) (fun c2 => ?_)
    · replace hf := ifp c2 hf
      refine lv_aload_n hx hb dX9_exchange_13 rfl (lv_at hl 0 rfl) ?_
      refine lv_iload_n hx hb dX9_exchange_14 rfl (lv_at hl 1 rfl) ?_
      obtain ⟨g3, hf⟩ := chk_some hf
      refine va_iald hx hb hK hP 0 0 rfl rfl (gin_in g3) dX9_exchange_15 ?_
      obtain ⟨x4, e5, hf⟩ := nm_some hf
      refine lv_tope e5 ?_
      refine lv_istore_n (lv' := [(3, .int x4), (0, .ref h_p1), (1, .int p2), (2, .int p3)]) hx hb dX9_exchange_16 rfl hl (by decide) rfl (fun ls hl => ?_)
      refine lv_aload_n hx hb dX9_exchange_17 rfl (lv_at hl 1 rfl) ?_
      refine lv_iload_n hx hb dX9_exchange_18 rfl (lv_at hl 2 rfl) ?_
      refine lv_iload_n hx hb dX9_exchange_19 rfl (lv_at hl 3 rfl) ?_
      obtain ⟨g6, hf⟩ := chk_some hf
      obtain ⟨y7, e8, hf⟩ := nm_some hf
      refine va_iast hx hb hK hP hD hS 0 0 rfl rfl (gin_in g6) dX9_exchange_20 (fun H locs hP hD hS => ?_)
      have hP : va_P (dC, dI) vwCl [(h_p1, .inl (cI, n_p1, .inl y7))] H := by rw [e8]; exact hP
      have hD : va_D A [(h_p1, .inl (cI, n_p1, .inl y7))] := by rw [e8]; exact hD
      refine lv_iload_n hx hb dX9_exchange_21 rfl (lv_at hl 0 rfl) ?_
      obtain ⟨rfl, rfl⟩ := inj2 hf
      subst hQ
      exact CM_iret hx hb hr rfl hlocks hAe hP hD hS dX9_exchange_22
    · replace hf := ifn c2 hf
      refine lv_bipush (v := (-2 : Int32)) hx hb dX9_exchange_10 (by decide) ?_
      obtain ⟨rfl, rfl⟩ := inj2 hf
      subst hQ
      exact CM_iret hx hb hr rfl hlocks hAe hP hD hS dX9_exchange_12
def rmX9_surface : Room := { frames := 2, cells := 0, slots := 0, locals := 42 }
abbrev wqX9_surface : List Cond := Cond.code yX9_surface cX9_surface 4 (some .int) :: tG
set_option maxHeartbeats 4000000 in
set_option maxRecDepth 100000 in
theorem c_X9_surface (l : Launch) (dC : Nat → ClassId) (dI : Nat → Nat → Nat) (cI cZ : ClassId) (te : Nat → Nat) (h_t : Nat) (h_t_now : Nat) (h_t_beforeRead : Nat) (h_t_firstImage : Nat) (h_t_secondImage : Nat) (h_t_valley : Nat) (h_t_ages : Nat) (h_t_fronts : Nat) (h_t_outburst : Nat) (h_t_text : Nat) (h_t_now_surfaces : Nat) (h_t_now_cliffs : Nat) (h_t_now_boulders : Nat) (h_t_now_scratches : Nat) (h_t_now_numbers : Nat) (h_t_now_facts : Nat) (h_t_now_signs : Nat) (h_t_now_areas : Nat) (h_t_now_heights : Nat) (t_firstKept : Int32) (t_secondKept : Int32) (t_now_ridges : Int32) (t_now_surfaces : Nat → Int32) (p1 : Int32) (p2 : Int32) (p3 : Int32) (o0 : Int32) (o1 : Nat → Int32) (hf : f_X9_surface t_now_surfaces p1 p2 p3 = some (o0, o1)) : CM l yX9_surface wqX9_surface rmX9_surface (kS te) dC dI cI cZ [.ref h_t, .int p1, .int p2, .int p3] [(h_t, .inr (7, fX9 h_t_now h_t_beforeRead h_t_firstImage h_t_secondImage h_t_valley h_t_ages h_t_fronts h_t_outburst h_t_text t_firstKept t_secondKept)), (h_t_now, .inr (1, fX1 h_t_now_surfaces h_t_now_cliffs h_t_now_boulders h_t_now_scratches h_t_now_numbers h_t_now_facts h_t_now_signs h_t_now_areas h_t_now_heights t_now_ridges)), (h_t_now_surfaces, .inl (cI, 192, .inl t_now_surfaces))] [(h_t, .inr (7, fX9 h_t_now h_t_beforeRead h_t_firstImage h_t_secondImage h_t_valley h_t_ages h_t_fronts h_t_outburst h_t_text t_firstKept t_secondKept)), (h_t_now, .inr (1, fX1 h_t_now_surfaces h_t_now_cliffs h_t_now_boulders h_t_now_scratches h_t_now_numbers h_t_now_facts h_t_now_signs h_t_now_areas h_t_now_heights t_now_ridges)), (h_t_now_surfaces, .inl (cI, 192, .inl o1))] (some (.int o0)) := by
  refine CM_of (cc := cX9_surface) (maxL := 4) (ret := (some .int)) (by decide +kernel) rfl (Nat.le_of_ble_eq_true rfl) ?_
  intro p e s m args below meth c A Q hx hb hr hml hown hts hlocks hA hK hP hD hS hE hQ hAe ls hl
  have hown : s.vm.findClass RX9 = some m.cls := hown
  have hl : lv_has ls 4 [(0, .ref h_t), (1, .int p1), (2, .int p2), (3, .int p3)] := hl
  unfold f_X9_surface at hf
  refine lv_iload_n hx hb dX9_surface_0 rfl (lv_at hl 1 rfl) ?_
  obtain ⟨r1, hg2, hf⟩ := bd1_some hf
  refine CM_callS (As := [.int p1]) (rest := []) (wc := []) (w1 := []) (wr := [(h_t, .inr (7, fX9 h_t_now h_t_beforeRead h_t_firstImage h_t_secondImage h_t_valley h_t_ages h_t_fronts h_t_outburst h_t_text t_firstKept t_secondKept)), (h_t_now, .inr (1, fX1 h_t_now_surfaces h_t_now_cliffs h_t_now_boulders h_t_now_scratches h_t_now_numbers h_t_now_facts h_t_now_signs h_t_now_areas h_t_now_heights t_now_ridges)), (h_t_now_surfaces, .inl (cI, 192, .inl t_now_surfaces))]) (wo := [(h_t, .inr (7, fX9 h_t_now h_t_beforeRead h_t_firstImage h_t_secondImage h_t_valley h_t_ages h_t_fronts h_t_outburst h_t_text t_firstKept t_secondKept)), (h_t_now, .inr (1, fX1 h_t_now_surfaces h_t_now_cliffs h_t_now_boulders h_t_now_scratches h_t_now_numbers h_t_now_facts h_t_now_signs h_t_now_areas h_t_now_heights t_now_ridges)), (h_t_now_surfaces, .inl (cI, 192, .inl t_now_surfaces))]) (v := (some (.int r1))) ⟨hx, hb, hml, hown, hts⟩ (c_X9_isStage l dC dI cI cZ te p1 r1 hg2) (va_cwS 1 hts (gS kw_697 kw_698 kw_695 kw_699) rfl rfl rfl (by decide +kernel) ⟨Nat.le_of_ble_eq_true rfl, Nat.le_of_ble_eq_true rfl⟩) (kS_env te) hK hP hD hS hA hE [] [0, 1, 2] [0, 1, 2] rfl rfl (by decide) (by decide) (by decide) (by decide) rfl rfl hl.1 rfl (Nat.le_of_ble_eq_true rfl) dX9_surface_1 ⟨Nat.zero_le _, Nat.zero_le _⟩ (fun H locs hP hD hS => ?_)
  show W p l e rmX9_surface s m args below meth c H locs 0 0 Q (F0 m 4 ls [.int r1])
  refine lv_if_eq (tgt := 24) hx hb dX9_surface_4 (by decide) (fun c3 => ?_) (fun c3 => ?_)
  · replace hf := ifp c3 hf
    refine lv_bipush (v := (-2 : Int32)) hx hb dX9_surface_24 (by decide) ?_
    obtain ⟨rfl, rfl⟩ := inj2 hf
    subst hQ
    exact CM_iret hx hb hr rfl hlocks hAe hP hD hS dX9_surface_26
  · replace hf := ifn c3 hf
    refine lv_iload_n hx hb dX9_surface_7 rfl (lv_at hl 2 rfl) ?_
    obtain ⟨r4, hg5, hf⟩ := bd1_some hf
    refine CM_callS (As := [.int p2]) (rest := []) (wc := []) (w1 := []) (wr := [(h_t, .inr (7, fX9 h_t_now h_t_beforeRead h_t_firstImage h_t_secondImage h_t_valley h_t_ages h_t_fronts h_t_outburst h_t_text t_firstKept t_secondKept)), (h_t_now, .inr (1, fX1 h_t_now_surfaces h_t_now_cliffs h_t_now_boulders h_t_now_scratches h_t_now_numbers h_t_now_facts h_t_now_signs h_t_now_areas h_t_now_heights t_now_ridges)), (h_t_now_surfaces, .inl (cI, 192, .inl t_now_surfaces))]) (wo := [(h_t, .inr (7, fX9 h_t_now h_t_beforeRead h_t_firstImage h_t_secondImage h_t_valley h_t_ages h_t_fronts h_t_outburst h_t_text t_firstKept t_secondKept)), (h_t_now, .inr (1, fX1 h_t_now_surfaces h_t_now_cliffs h_t_now_boulders h_t_now_scratches h_t_now_numbers h_t_now_facts h_t_now_signs h_t_now_areas h_t_now_heights t_now_ridges)), (h_t_now_surfaces, .inl (cI, 192, .inl t_now_surfaces))]) (v := (some (.int r4))) ⟨hx, hb, hml, hown, hts⟩ (c_X9_isPlace l dC dI cI cZ te p2 r4 hg5) (va_cwS 1 hts (gS kw_700 kw_701 kw_695 kw_702) rfl rfl rfl (by decide +kernel) ⟨Nat.le_of_ble_eq_true rfl, Nat.le_of_ble_eq_true rfl⟩) (kS_env te) hK hP hD hS hA hE [] [0, 1, 2] [0, 1, 2] rfl rfl (by decide) (by decide) (by decide) (by decide) rfl rfl hl.1 rfl (Nat.le_of_ble_eq_true rfl) dX9_surface_8 ⟨Nat.zero_le _, Nat.zero_le _⟩ (fun H locs hP hD hS => ?_)
    show W p l e rmX9_surface s m args below meth c H locs 0 0 Q (F0 m 11 ls [.int r4])
    refine lv_if_eq (tgt := 24) hx hb dX9_surface_11 (by decide) (fun c6 => ?_) (fun c6 => ?_)
    · replace hf := ifp c6 hf
      refine lv_bipush (v := (-2 : Int32)) hx hb dX9_surface_24 (by decide) ?_
      obtain ⟨rfl, rfl⟩ := inj2 hf
      subst hQ
      exact CM_iret hx hb hr rfl hlocks hAe hP hD hS dX9_surface_26
    · replace hf := ifn c6 hf
      refine lv_iload_n hx hb dX9_surface_14 rfl (lv_at hl 3 rfl) ?_
      refine lv_iconst (v := (0 : Int32)) hx hb dX9_surface_15 (by decide) ?_
      refine lv_bipush (v := (99 : Int32)) hx hb dX9_surface_16 (by decide) ?_
      obtain ⟨r7, hg8, hf⟩ := bd1_some hf
      refine CM_callS (As := [.int p3, .int (0 : Int32), .int (99 : Int32)]) (rest := []) (wc := []) (w1 := []) (wr := [(h_t, .inr (7, fX9 h_t_now h_t_beforeRead h_t_firstImage h_t_secondImage h_t_valley h_t_ages h_t_fronts h_t_outburst h_t_text t_firstKept t_secondKept)), (h_t_now, .inr (1, fX1 h_t_now_surfaces h_t_now_cliffs h_t_now_boulders h_t_now_scratches h_t_now_numbers h_t_now_facts h_t_now_signs h_t_now_areas h_t_now_heights t_now_ridges)), (h_t_now_surfaces, .inl (cI, 192, .inl t_now_surfaces))]) (wo := [(h_t, .inr (7, fX9 h_t_now h_t_beforeRead h_t_firstImage h_t_secondImage h_t_valley h_t_ages h_t_fronts h_t_outburst h_t_text t_firstKept t_secondKept)), (h_t_now, .inr (1, fX1 h_t_now_surfaces h_t_now_cliffs h_t_now_boulders h_t_now_scratches h_t_now_numbers h_t_now_facts h_t_now_signs h_t_now_areas h_t_now_heights t_now_ridges)), (h_t_now_surfaces, .inl (cI, 192, .inl t_now_surfaces))]) (v := (some (.int r7))) ⟨hx, hb, hml, hown, hts⟩ (c_X9_within l dC dI cI cZ te p3 (0 : Int32) (99 : Int32) r7 hg8) (va_cwS 3 hts (gS kw_693 kw_694 kw_695 kw_696) rfl rfl rfl (by decide +kernel) ⟨Nat.le_of_ble_eq_true rfl, Nat.le_of_ble_eq_true rfl⟩) (kS_env te) hK hP hD hS hA hE [] [0, 1, 2] [0, 1, 2] rfl rfl (by decide) (by decide) (by decide) (by decide) rfl rfl hl.1 rfl (Nat.le_of_ble_eq_true rfl) dX9_surface_18 ⟨Nat.zero_le _, Nat.zero_le _⟩ (fun H locs hP hD hS => ?_)
      show W p l e rmX9_surface s m args below meth c H locs 0 0 Q (F0 m 21 ls [.int r7])
      refine lv_if_ne (tgt := 27) hx hb dX9_surface_21 (by decide) (fun c9 => ?_) (fun c9 => ?_)
      · replace hf := ifn c9 hf
        refine lv_aload_n hx hb dX9_surface_27 rfl (lv_at hl 0 rfl) ?_
        refine va_get (D := (dC, dI)) (ci := 7) (v := .ref h_t_now) (C := RX9) (T := TX9) (N := 11) hx hb hts (in1 tw_X9) hown hK hP 0 rfl rfl 0 (by decide) (hts _ (List.mem_cons_of_mem _ kw_75)) (fun _ h9 => h9) rfl dX9_surface_28 ?_
        refine va_get (D := (dC, dI)) (ci := 1) (v := .ref h_t_now_surfaces) (C := RX1) (T := TX1) (N := 10) hx hb hts (in1 tw_X1) hown hK hP 1 rfl rfl 0 (by decide) (hts _ (List.mem_cons_of_mem _ kw_703)) (fun _ h9 => h9) rfl dX9_surface_31 ?_
        refine lv_bipush (v := (64 : Int32)) hx hb dX9_surface_34 (by decide) ?_
        refine lv_iload_n hx hb dX9_surface_36 rfl (lv_at hl 1 rfl) ?_
        refine lv_imul hx hb dX9_surface_37 ?_
        refine lv_iload_n hx hb dX9_surface_38 rfl (lv_at hl 2 rfl) ?_
        refine lv_iadd hx hb dX9_surface_39 ?_
        refine lv_iload_n hx hb dX9_surface_40 rfl (lv_at hl 3 rfl) ?_
        obtain ⟨r10, y11, hg12, hf⟩ := bd2_some hf
        refine CM_callS (As := [.ref h_t_now_surfaces, .int (((64 : Int32) * p1) + p2), .int p3]) (rest := []) (wc := [(h_t_now_surfaces, .inl (cI, 192, .inl t_now_surfaces))]) (w1 := [(h_t_now_surfaces, .inl (cI, 192, .inl y11))]) (wr := [(h_t, .inr (7, fX9 h_t_now h_t_beforeRead h_t_firstImage h_t_secondImage h_t_valley h_t_ages h_t_fronts h_t_outburst h_t_text t_firstKept t_secondKept)), (h_t_now, .inr (1, fX1 h_t_now_surfaces h_t_now_cliffs h_t_now_boulders h_t_now_scratches h_t_now_numbers h_t_now_facts h_t_now_signs h_t_now_areas h_t_now_heights t_now_ridges))]) (wo := [(h_t, .inr (7, fX9 h_t_now h_t_beforeRead h_t_firstImage h_t_secondImage h_t_valley h_t_ages h_t_fronts h_t_outburst h_t_text t_firstKept t_secondKept)), (h_t_now, .inr (1, fX1 h_t_now_surfaces h_t_now_cliffs h_t_now_boulders h_t_now_scratches h_t_now_numbers h_t_now_facts h_t_now_signs h_t_now_areas h_t_now_heights t_now_ridges)), (h_t_now_surfaces, .inl (cI, 192, .inl y11))]) (v := (some (.int r10))) ⟨hx, hb, hml, hown, hts⟩ (c_X9_exchange l dC dI cI cZ te h_t_now_surfaces (192) t_now_surfaces (((64 : Int32) * p1) + p2) p3 r10 y11 hg12) (va_cwS 3 hts (gS kw_704 kw_705 kw_695 kw_706) rfl rfl rfl (by decide +kernel) ⟨Nat.le_of_ble_eq_true rfl, Nat.le_of_ble_eq_true rfl⟩) (kS_env te) hK hP hD hS hA hE [2] [0, 1] [0, 1, 2] rfl rfl (by decide) (by decide) (by decide) (by decide) rfl rfl hl.1 rfl (Nat.le_of_ble_eq_true rfl) dX9_surface_41 ⟨Nat.zero_le _, Nat.zero_le _⟩ (fun H locs hP hD hS => ?_)
        show W p l e rmX9_surface s m args below meth c H locs 0 0 Q (F0 m 44 ls [.int r10])
        obtain ⟨rfl, rfl⟩ := inj2 hf
        subst hQ
        exact CM_iret hx hb hr rfl hlocks hAe hP hD hS dX9_surface_44
      · replace hf := ifp c9 hf
        refine lv_bipush (v := (-2 : Int32)) hx hb dX9_surface_24 (by decide) ?_
        obtain ⟨rfl, rfl⟩ := inj2 hf
        subst hQ
        exact CM_iret hx hb hr rfl hlocks hAe hP hD hS dX9_surface_26
def rmX9_slope : Room := { frames := 2, cells := 0, slots := 0, locals := 42 }
abbrev wqX9_slope : List Cond := Cond.code yX9_slope cX9_slope 7 (some .int) :: tG
set_option maxHeartbeats 4000000 in
set_option maxRecDepth 100000 in
theorem c_X9_slope (l : Launch) (dC : Nat → ClassId) (dI : Nat → Nat → Nat) (cI cZ : ClassId) (te : Nat → Nat) (h_t : Nat) (h_t_now : Nat) (h_t_beforeRead : Nat) (h_t_firstImage : Nat) (h_t_secondImage : Nat) (h_t_valley : Nat) (h_t_ages : Nat) (h_t_fronts : Nat) (h_t_outburst : Nat) (h_t_text : Nat) (h_t_now_surfaces : Nat) (h_t_now_cliffs : Nat) (h_t_now_boulders : Nat) (h_t_now_scratches : Nat) (h_t_now_numbers : Nat) (h_t_now_facts : Nat) (h_t_now_signs : Nat) (h_t_now_areas : Nat) (h_t_now_heights : Nat) (t_firstKept : Int32) (t_secondKept : Int32) (t_now_ridges : Int32) (t_now_surfaces : Nat → Int32) (p1 : Int32) (p2 : Int32) (p3 : Int32) (p4 : Int32) (o0 : Int32) (o1 : Nat → Int32) (hf : f_X9_slope t_now_surfaces p1 p2 p3 p4 = some (o0, o1)) : CM l yX9_slope wqX9_slope rmX9_slope (kS te) dC dI cI cZ [.ref h_t, .int p1, .int p2, .int p3, .int p4] [(h_t, .inr (7, fX9 h_t_now h_t_beforeRead h_t_firstImage h_t_secondImage h_t_valley h_t_ages h_t_fronts h_t_outburst h_t_text t_firstKept t_secondKept)), (h_t_now, .inr (1, fX1 h_t_now_surfaces h_t_now_cliffs h_t_now_boulders h_t_now_scratches h_t_now_numbers h_t_now_facts h_t_now_signs h_t_now_areas h_t_now_heights t_now_ridges)), (h_t_now_surfaces, .inl (cI, 192, .inl t_now_surfaces))] [(h_t, .inr (7, fX9 h_t_now h_t_beforeRead h_t_firstImage h_t_secondImage h_t_valley h_t_ages h_t_fronts h_t_outburst h_t_text t_firstKept t_secondKept)), (h_t_now, .inr (1, fX1 h_t_now_surfaces h_t_now_cliffs h_t_now_boulders h_t_now_scratches h_t_now_numbers h_t_now_facts h_t_now_signs h_t_now_areas h_t_now_heights t_now_ridges)), (h_t_now_surfaces, .inl (cI, 192, .inl o1))] (some (.int o0)) := by
  refine CM_of (cc := cX9_slope) (maxL := 7) (ret := (some .int)) (by decide +kernel) rfl (Nat.le_of_ble_eq_true rfl) ?_
  intro p e s m args below meth c A Q hx hb hr hml hown hts hlocks hA hK hP hD hS hE hQ hAe ls hl
  have hown : s.vm.findClass RX9 = some m.cls := hown
  have hl : lv_has ls 7 [(0, .ref h_t), (1, .int p1), (2, .int p2), (3, .int p3), (4, .int p4)] := hl
  unfold f_X9_slope at hf
  refine lv_iload_n hx hb dX9_slope_0 rfl (lv_at hl 1 rfl) ?_
  obtain ⟨r1, hg2, hf⟩ := bd1_some hf
  refine CM_callS (As := [.int p1]) (rest := []) (wc := []) (w1 := []) (wr := [(h_t, .inr (7, fX9 h_t_now h_t_beforeRead h_t_firstImage h_t_secondImage h_t_valley h_t_ages h_t_fronts h_t_outburst h_t_text t_firstKept t_secondKept)), (h_t_now, .inr (1, fX1 h_t_now_surfaces h_t_now_cliffs h_t_now_boulders h_t_now_scratches h_t_now_numbers h_t_now_facts h_t_now_signs h_t_now_areas h_t_now_heights t_now_ridges)), (h_t_now_surfaces, .inl (cI, 192, .inl t_now_surfaces))]) (wo := [(h_t, .inr (7, fX9 h_t_now h_t_beforeRead h_t_firstImage h_t_secondImage h_t_valley h_t_ages h_t_fronts h_t_outburst h_t_text t_firstKept t_secondKept)), (h_t_now, .inr (1, fX1 h_t_now_surfaces h_t_now_cliffs h_t_now_boulders h_t_now_scratches h_t_now_numbers h_t_now_facts h_t_now_signs h_t_now_areas h_t_now_heights t_now_ridges)), (h_t_now_surfaces, .inl (cI, 192, .inl t_now_surfaces))]) (v := (some (.int r1))) ⟨hx, hb, hml, hown, hts⟩ (c_X9_isStage l dC dI cI cZ te p1 r1 hg2) (va_cwS 1 hts (gS kw_697 kw_698 kw_695 kw_699) rfl rfl rfl (by decide +kernel) ⟨Nat.le_of_ble_eq_true rfl, Nat.le_of_ble_eq_true rfl⟩) (kS_env te) hK hP hD hS hA hE [] [0, 1, 2] [0, 1, 2] rfl rfl (by decide) (by decide) (by decide) (by decide) rfl rfl hl.1 rfl (Nat.le_of_ble_eq_true rfl) dX9_slope_1 ⟨Nat.zero_le _, Nat.zero_le _⟩ (fun H locs hP hD hS => ?_)
  show W p l e rmX9_slope s m args below meth c H locs 0 0 Q (F0 m 4 ls [.int r1])
  refine lv_if_eq (tgt := 39) hx hb dX9_slope_4 (by decide) (fun c3 => ?_) (fun c3 => ?_)
  · replace hf := ifp c3 hf
    refine lv_bipush (v := (-2 : Int32)) hx hb dX9_slope_39 (by decide) ?_
    obtain ⟨rfl, rfl⟩ := inj2 hf
    subst hQ
    exact CM_iret hx hb hr rfl hlocks hAe hP hD hS dX9_slope_41
  · replace hf := ifn c3 hf
    refine lv_iload_n hx hb dX9_slope_7 rfl (lv_at hl 2 rfl) ?_
    refine lv_iconst (v := (0 : Int32)) hx hb dX9_slope_8 (by decide) ?_
    refine lv_bipush (v := (7 : Int32)) hx hb dX9_slope_9 (by decide) ?_
    obtain ⟨r4, hg5, hf⟩ := bd1_some hf
    refine CM_callS (As := [.int p2, .int (0 : Int32), .int (7 : Int32)]) (rest := []) (wc := []) (w1 := []) (wr := [(h_t, .inr (7, fX9 h_t_now h_t_beforeRead h_t_firstImage h_t_secondImage h_t_valley h_t_ages h_t_fronts h_t_outburst h_t_text t_firstKept t_secondKept)), (h_t_now, .inr (1, fX1 h_t_now_surfaces h_t_now_cliffs h_t_now_boulders h_t_now_scratches h_t_now_numbers h_t_now_facts h_t_now_signs h_t_now_areas h_t_now_heights t_now_ridges)), (h_t_now_surfaces, .inl (cI, 192, .inl t_now_surfaces))]) (wo := [(h_t, .inr (7, fX9 h_t_now h_t_beforeRead h_t_firstImage h_t_secondImage h_t_valley h_t_ages h_t_fronts h_t_outburst h_t_text t_firstKept t_secondKept)), (h_t_now, .inr (1, fX1 h_t_now_surfaces h_t_now_cliffs h_t_now_boulders h_t_now_scratches h_t_now_numbers h_t_now_facts h_t_now_signs h_t_now_areas h_t_now_heights t_now_ridges)), (h_t_now_surfaces, .inl (cI, 192, .inl t_now_surfaces))]) (v := (some (.int r4))) ⟨hx, hb, hml, hown, hts⟩ (c_X9_within l dC dI cI cZ te p2 (0 : Int32) (7 : Int32) r4 hg5) (va_cwS 3 hts (gS kw_693 kw_694 kw_695 kw_696) rfl rfl rfl (by decide +kernel) ⟨Nat.le_of_ble_eq_true rfl, Nat.le_of_ble_eq_true rfl⟩) (kS_env te) hK hP hD hS hA hE [] [0, 1, 2] [0, 1, 2] rfl rfl (by decide) (by decide) (by decide) (by decide) rfl rfl hl.1 rfl (Nat.le_of_ble_eq_true rfl) dX9_slope_11 ⟨Nat.zero_le _, Nat.zero_le _⟩ (fun H locs hP hD hS => ?_)
    show W p l e rmX9_slope s m args below meth c H locs 0 0 Q (F0 m 14 ls [.int r4])
    refine lv_if_eq (tgt := 39) hx hb dX9_slope_14 (by decide) (fun c6 => ?_) (fun c6 => ?_)
    · replace hf := ifp c6 hf
      refine lv_bipush (v := (-2 : Int32)) hx hb dX9_slope_39 (by decide) ?_
      obtain ⟨rfl, rfl⟩ := inj2 hf
      subst hQ
      exact CM_iret hx hb hr rfl hlocks hAe hP hD hS dX9_slope_41
    · replace hf := ifn c6 hf
      refine lv_iload_n hx hb dX9_slope_17 rfl (lv_at hl 3 rfl) ?_
      refine lv_iconst (v := (0 : Int32)) hx hb dX9_slope_18 (by decide) ?_
      refine lv_bipush (v := (99 : Int32)) hx hb dX9_slope_19 (by decide) ?_
      obtain ⟨r7, hg8, hf⟩ := bd1_some hf
      refine CM_callS (As := [.int p3, .int (0 : Int32), .int (99 : Int32)]) (rest := []) (wc := []) (w1 := []) (wr := [(h_t, .inr (7, fX9 h_t_now h_t_beforeRead h_t_firstImage h_t_secondImage h_t_valley h_t_ages h_t_fronts h_t_outburst h_t_text t_firstKept t_secondKept)), (h_t_now, .inr (1, fX1 h_t_now_surfaces h_t_now_cliffs h_t_now_boulders h_t_now_scratches h_t_now_numbers h_t_now_facts h_t_now_signs h_t_now_areas h_t_now_heights t_now_ridges)), (h_t_now_surfaces, .inl (cI, 192, .inl t_now_surfaces))]) (wo := [(h_t, .inr (7, fX9 h_t_now h_t_beforeRead h_t_firstImage h_t_secondImage h_t_valley h_t_ages h_t_fronts h_t_outburst h_t_text t_firstKept t_secondKept)), (h_t_now, .inr (1, fX1 h_t_now_surfaces h_t_now_cliffs h_t_now_boulders h_t_now_scratches h_t_now_numbers h_t_now_facts h_t_now_signs h_t_now_areas h_t_now_heights t_now_ridges)), (h_t_now_surfaces, .inl (cI, 192, .inl t_now_surfaces))]) (v := (some (.int r7))) ⟨hx, hb, hml, hown, hts⟩ (c_X9_within l dC dI cI cZ te p3 (0 : Int32) (99 : Int32) r7 hg8) (va_cwS 3 hts (gS kw_693 kw_694 kw_695 kw_696) rfl rfl rfl (by decide +kernel) ⟨Nat.le_of_ble_eq_true rfl, Nat.le_of_ble_eq_true rfl⟩) (kS_env te) hK hP hD hS hA hE [] [0, 1, 2] [0, 1, 2] rfl rfl (by decide) (by decide) (by decide) (by decide) rfl rfl hl.1 rfl (Nat.le_of_ble_eq_true rfl) dX9_slope_21 ⟨Nat.zero_le _, Nat.zero_le _⟩ (fun H locs hP hD hS => ?_)
      show W p l e rmX9_slope s m args below meth c H locs 0 0 Q (F0 m 24 ls [.int r7])
      refine lv_if_eq (tgt := 39) hx hb dX9_slope_24 (by decide) (fun c9 => ?_) (fun c9 => ?_)
      · replace hf := ifp c9 hf
        refine lv_bipush (v := (-2 : Int32)) hx hb dX9_slope_39 (by decide) ?_
        obtain ⟨rfl, rfl⟩ := inj2 hf
        subst hQ
        exact CM_iret hx hb hr rfl hlocks hAe hP hD hS dX9_slope_41
      · replace hf := ifn c9 hf
        refine lv_iload hx hb dX9_slope_27 (lv_at hl 4 rfl) ?_
        refine lv_bipush (v := (-50 : Int32)) hx hb dX9_slope_29 (by decide) ?_
        refine lv_bipush (v := (50 : Int32)) hx hb dX9_slope_31 (by decide) ?_
        obtain ⟨r10, hg11, hf⟩ := bd1_some hf
        refine CM_callS (As := [.int p4, .int (-50 : Int32), .int (50 : Int32)]) (rest := []) (wc := []) (w1 := []) (wr := [(h_t, .inr (7, fX9 h_t_now h_t_beforeRead h_t_firstImage h_t_secondImage h_t_valley h_t_ages h_t_fronts h_t_outburst h_t_text t_firstKept t_secondKept)), (h_t_now, .inr (1, fX1 h_t_now_surfaces h_t_now_cliffs h_t_now_boulders h_t_now_scratches h_t_now_numbers h_t_now_facts h_t_now_signs h_t_now_areas h_t_now_heights t_now_ridges)), (h_t_now_surfaces, .inl (cI, 192, .inl t_now_surfaces))]) (wo := [(h_t, .inr (7, fX9 h_t_now h_t_beforeRead h_t_firstImage h_t_secondImage h_t_valley h_t_ages h_t_fronts h_t_outburst h_t_text t_firstKept t_secondKept)), (h_t_now, .inr (1, fX1 h_t_now_surfaces h_t_now_cliffs h_t_now_boulders h_t_now_scratches h_t_now_numbers h_t_now_facts h_t_now_signs h_t_now_areas h_t_now_heights t_now_ridges)), (h_t_now_surfaces, .inl (cI, 192, .inl t_now_surfaces))]) (v := (some (.int r10))) ⟨hx, hb, hml, hown, hts⟩ (c_X9_within l dC dI cI cZ te p4 (-50 : Int32) (50 : Int32) r10 hg11) (va_cwS 3 hts (gS kw_693 kw_694 kw_695 kw_696) rfl rfl rfl (by decide +kernel) ⟨Nat.le_of_ble_eq_true rfl, Nat.le_of_ble_eq_true rfl⟩) (kS_env te) hK hP hD hS hA hE [] [0, 1, 2] [0, 1, 2] rfl rfl (by decide) (by decide) (by decide) (by decide) rfl rfl hl.1 rfl (Nat.le_of_ble_eq_true rfl) dX9_slope_33 ⟨Nat.zero_le _, Nat.zero_le _⟩ (fun H locs hP hD hS => ?_)
        show W p l e rmX9_slope s m args below meth c H locs 0 0 Q (F0 m 36 ls [.int r10])
        refine lv_if_ne (tgt := 42) hx hb dX9_slope_36 (by decide) (fun c12 => ?_) (fun c12 => ?_)
        · replace hf := ifn c12 hf
          refine lv_bipush (v := (64 : Int32)) hx hb dX9_slope_42 (by decide) ?_
          refine lv_iload_n hx hb dX9_slope_44 rfl (lv_at hl 1 rfl) ?_
          refine lv_imul hx hb dX9_slope_45 ?_
          refine lv_bipush (v := (8 : Int32)) hx hb dX9_slope_46 (by decide) ?_
          refine lv_iload_n hx hb dX9_slope_48 rfl (lv_at hl 2 rfl) ?_
          refine lv_imul hx hb dX9_slope_49 ?_
          refine lv_iadd hx hb dX9_slope_50 ?_
          obtain ⟨x13, e14, hf⟩ := nm_some hf
          refine lv_tope e14 ?_
          refine lv_istore (lv' := [(5, .int x13), (0, .ref h_t), (1, .int p1), (2, .int p2), (3, .int p3), (4, .int p4)]) hx hb dX9_slope_51 hl (by decide) rfl (fun ls hl => ?_)
          refine lv_iconst (v := (0 : Int32)) hx hb dX9_slope_53 (by decide) ?_
          refine lv_istore (lv' := [(6, .int (0 : Int32)), (5, .int x13), (0, .ref h_t), (1, .int p1), (2, .int p2), (3, .int p3), (4, .int p4)]) hx hb dX9_slope_54 hl (by decide) rfl (fun ls hl => ?_)
          have L35 : ∀ (fu27 : Nat) (y24 : Nat → Int32) (x25 : Int32) (y23 : Nat → Int32), f_X9_slope_L1 p3 p4 x13 fu27 y24 x25 = some y23 → (∀ (H : Heap) (locs : List Loc), va_P (dC, dI) vwCl [(h_t, .inr (7, fX9 h_t_now h_t_beforeRead h_t_firstImage h_t_secondImage h_t_valley h_t_ages h_t_fronts h_t_outburst h_t_text t_firstKept t_secondKept)), (h_t_now, .inr (1, fX1 h_t_now_surfaces h_t_now_cliffs h_t_now_boulders h_t_now_scratches h_t_now_numbers h_t_now_facts h_t_now_signs h_t_now_areas h_t_now_heights t_now_ridges)), (h_t_now_surfaces, .inl (cI, 192, .inl y23))] H → va_D A [(h_t, .inr (7, fX9 h_t_now h_t_beforeRead h_t_firstImage h_t_secondImage h_t_valley h_t_ages h_t_fronts h_t_outburst h_t_text t_firstKept t_secondKept)), (h_t_now, .inr (1, fX1 h_t_now_surfaces h_t_now_cliffs h_t_now_boulders h_t_now_scratches h_t_now_numbers h_t_now_facts h_t_now_signs h_t_now_areas h_t_now_heights t_now_ridges)), (h_t_now_surfaces, .inl (cI, 192, .inl y23))] → va_S A s.heap H locs → ∀ ls : Array Slot, lv_has ls 7 [] → W p l e rmX9_slope s m args below meth c H locs 0 0 Q (F0 m 98 ls [])) → ∀ (H : Heap) (locs : List Loc), va_P (dC, dI) vwCl [(h_t, .inr (7, fX9 h_t_now h_t_beforeRead h_t_firstImage h_t_secondImage h_t_valley h_t_ages h_t_fronts h_t_outburst h_t_text t_firstKept t_secondKept)), (h_t_now, .inr (1, fX1 h_t_now_surfaces h_t_now_cliffs h_t_now_boulders h_t_now_scratches h_t_now_numbers h_t_now_facts h_t_now_signs h_t_now_areas h_t_now_heights t_now_ridges)), (h_t_now_surfaces, .inl (cI, 192, .inl y24))] H → va_D A [(h_t, .inr (7, fX9 h_t_now h_t_beforeRead h_t_firstImage h_t_secondImage h_t_valley h_t_ages h_t_fronts h_t_outburst h_t_text t_firstKept t_secondKept)), (h_t_now, .inr (1, fX1 h_t_now_surfaces h_t_now_cliffs h_t_now_boulders h_t_now_scratches h_t_now_numbers h_t_now_facts h_t_now_signs h_t_now_areas h_t_now_heights t_now_ridges)), (h_t_now_surfaces, .inl (cI, 192, .inl y24))] → va_S A s.heap H locs → ∀ ls : Array Slot, lv_has ls 7 [(0, .ref h_t), (3, .int p3), (4, .int p4), (5, .int x13), (6, .int x25)] → W p l e rmX9_slope s m args below meth c H locs 0 0 Q (F0 m 56 ls []) := by
            intro fu27
            induction fu27 with
            | zero =>
              intro y24 x25 y23 hf
              unfold f_X9_slope_L1 at hf
              exact none_ne hf
            | succ fu27 ih26 =>
              intro y24 x25 y23 hf hX28 H locs hP hD hS ls hl
              unfold f_X9_slope_L1 at hf
              refine lv_iload hx hb dX9_slope_56 (lv_at hl 4 rfl) ?_
              refine lv_bipush (v := (8 : Int32)) hx hb dX9_slope_58 (by decide) ?_
              refine lv_icmp_ge (tgt := 98) hx hb dX9_slope_60 (by decide) (fun c29 => ?_) (fun c29 => ?_)
              · replace hf := ifp c29 hf
                obtain rfl := inj1 hf
                exact hX28 _ _ hP hD hS _ (lv_sub hl [] rfl)
              · replace hf := ifn c29 hf
                refine lv_aload_n hx hb dX9_slope_63 rfl (lv_at hl 0 rfl) ?_
                refine va_get (D := (dC, dI)) (ci := 7) (v := .ref h_t_now) (C := RX9) (T := TX9) (N := 11) hx hb hts (in1 tw_X9) hown hK hP 0 rfl rfl 0 (by decide) (hts _ (List.mem_cons_of_mem _ kw_75)) (fun _ h9 => h9) rfl dX9_slope_64 ?_
                refine va_get (D := (dC, dI)) (ci := 1) (v := .ref h_t_now_surfaces) (C := RX1) (T := TX1) (N := 10) hx hb hts (in1 tw_X1) hown hK hP 1 rfl rfl 0 (by decide) (hts _ (List.mem_cons_of_mem _ kw_703)) (fun _ h9 => h9) rfl dX9_slope_67 ?_
                refine lv_iload hx hb dX9_slope_70 (lv_at hl 3 rfl) ?_
                refine lv_iload hx hb dX9_slope_72 (lv_at hl 4 rfl) ?_
                refine lv_iadd hx hb dX9_slope_74 ?_
                refine lv_iconst (v := (0 : Int32)) hx hb dX9_slope_75 (by decide) ?_
                refine lv_bipush (v := (99 : Int32)) hx hb dX9_slope_76 (by decide) ?_
                refine lv_iload_n hx hb dX9_slope_78 rfl (lv_at hl 1 rfl) ?_
                refine lv_iload hx hb dX9_slope_79 (lv_at hl 2 rfl) ?_
                refine lv_iload hx hb dX9_slope_81 (lv_at hl 4 rfl) ?_
                refine lv_imul hx hb dX9_slope_83 ?_
                refine lv_isub hx hb dX9_slope_84 ?_
                refine va_mmin hx hb (hml.trans hl.1.symm) hown (hts _ (List.mem_cons_of_mem _ kw_707)) (hts _ (List.mem_cons_of_mem _ kw_4)) (hts _ (List.mem_cons_of_mem _ kw_5)) (hts _ (List.mem_cons_of_mem _ kw_6)) (Nat.le_of_ble_eq_true rfl) (Nat.le_of_ble_eq_true rfl) (Nat.zero_le _) (Nat.zero_le _) dX9_slope_85 ?_
                refine va_mmax hx hb (hml.trans hl.1.symm) hown (hts _ (List.mem_cons_of_mem _ kw_708)) (hts _ (List.mem_cons_of_mem _ kw_8)) (hts _ (List.mem_cons_of_mem _ kw_5)) (hts _ (List.mem_cons_of_mem _ kw_9)) (Nat.le_of_ble_eq_true rfl) (Nat.le_of_ble_eq_true rfl) (Nat.zero_le _) (Nat.zero_le _) dX9_slope_88 ?_
                obtain ⟨x30, e31, hf⟩ := nm_some hf
                refine lv_tope e31 ?_
                obtain ⟨g32, hf⟩ := chk_some hf
                obtain ⟨y33, e34, hf⟩ := nm_some hf
                refine va_iast hx hb hK hP hD hS 2 0 rfl rfl (gin_in g32) dX9_slope_91 (fun H locs hP hD hS => ?_)
                have hP : va_P (dC, dI) vwCl [(h_t, .inr (7, fX9 h_t_now h_t_beforeRead h_t_firstImage h_t_secondImage h_t_valley h_t_ages h_t_fronts h_t_outburst h_t_text t_firstKept t_secondKept)), (h_t_now, .inr (1, fX1 h_t_now_surfaces h_t_now_cliffs h_t_now_boulders h_t_now_scratches h_t_now_numbers h_t_now_facts h_t_now_signs h_t_now_areas h_t_now_heights t_now_ridges)), (h_t_now_surfaces, .inl (cI, 192, .inl y33))] H := by rw [e34]; exact hP
                have hD : va_D A [(h_t, .inr (7, fX9 h_t_now h_t_beforeRead h_t_firstImage h_t_secondImage h_t_valley h_t_ages h_t_fronts h_t_outburst h_t_text t_firstKept t_secondKept)), (h_t_now, .inr (1, fX1 h_t_now_surfaces h_t_now_cliffs h_t_now_boulders h_t_now_scratches h_t_now_numbers h_t_now_facts h_t_now_signs h_t_now_areas h_t_now_heights t_now_ridges)), (h_t_now_surfaces, .inl (cI, 192, .inl y33))] := by rw [e34]; exact hD
                refine lv_iinc (v := (x25 + (1 : Int32))) (lv' := [(6, .int (x25 + (1 : Int32))), (0, .ref h_t), (3, .int p3), (4, .int p4), (5, .int x13)]) hx hb dX9_slope_92 hl (k := 4) rfl rfl (by decide) rfl (fun ls hl => ?_)
                refine lv_goto (tgt := 56) hx hb dX9_slope_95 (by decide) ?_
                exact ih26 _ _ _ hf hX28 _ _ hP hD hS _ (lv_sub hl [1, 2, 3, 4, 0] rfl)
          obtain ⟨y23, hg, hf⟩ := bd1_some hf
          refine L35 FU _ _ _ hg ?_ _ _ hP hD hS _ (lv_sub hl [2, 5, 6, 1, 0] rfl)
          · intro H locs hP hD hS ls hl
            refine lv_iconst (v := (1 : Int32)) hx hb dX9_slope_98 (by decide) ?_
            obtain ⟨rfl, rfl⟩ := inj2 hf
            subst hQ
            exact CM_iret hx hb hr rfl hlocks hAe hP hD hS dX9_slope_99
        · replace hf := ifp c12 hf
          refine lv_bipush (v := (-2 : Int32)) hx hb dX9_slope_39 (by decide) ?_
          obtain ⟨rfl, rfl⟩ := inj2 hf
          subst hQ
          exact CM_iret hx hb hr rfl hlocks hAe hP hD hS dX9_slope_41
def rmX9_flow : Room := { frames := 2, cells := 0, slots := 0, locals := 50 }
abbrev wqX9_flow : List Cond := Cond.code yX9_flow cX9_flow 3 (some .int) :: tG
set_option maxHeartbeats 4000000 in
set_option maxRecDepth 100000 in
theorem c_X9_flow (l : Launch) (dC : Nat → ClassId) (dI : Nat → Nat → Nat) (cI cZ : ClassId) (te : Nat → Nat) (h_t : Nat) (h_t_now : Nat) (h_t_beforeRead : Nat) (h_t_firstImage : Nat) (h_t_secondImage : Nat) (h_t_valley : Nat) (h_t_ages : Nat) (h_t_fronts : Nat) (h_t_outburst : Nat) (h_t_text : Nat) (h_t_now_surfaces : Nat) (h_t_now_cliffs : Nat) (h_t_now_boulders : Nat) (h_t_now_scratches : Nat) (h_t_now_numbers : Nat) (h_t_now_facts : Nat) (h_t_now_signs : Nat) (h_t_now_areas : Nat) (h_t_now_heights : Nat) (t_firstKept : Int32) (t_secondKept : Int32) (t_now_ridges : Int32) (t_now_surfaces : Nat → Int32) (p1 : Int32) (p2 : Int32) (o0 : Int32) (hf : f_X9_flow t_now_surfaces p1 p2 = some o0) : CM l yX9_flow wqX9_flow rmX9_flow (kS te) dC dI cI cZ [.ref h_t, .int p1, .int p2] [(h_t, .inr (7, fX9 h_t_now h_t_beforeRead h_t_firstImage h_t_secondImage h_t_valley h_t_ages h_t_fronts h_t_outburst h_t_text t_firstKept t_secondKept)), (h_t_now, .inr (1, fX1 h_t_now_surfaces h_t_now_cliffs h_t_now_boulders h_t_now_scratches h_t_now_numbers h_t_now_facts h_t_now_signs h_t_now_areas h_t_now_heights t_now_ridges)), (h_t_now_surfaces, .inl (cI, 192, .inl t_now_surfaces))] [(h_t, .inr (7, fX9 h_t_now h_t_beforeRead h_t_firstImage h_t_secondImage h_t_valley h_t_ages h_t_fronts h_t_outburst h_t_text t_firstKept t_secondKept)), (h_t_now, .inr (1, fX1 h_t_now_surfaces h_t_now_cliffs h_t_now_boulders h_t_now_scratches h_t_now_numbers h_t_now_facts h_t_now_signs h_t_now_areas h_t_now_heights t_now_ridges)), (h_t_now_surfaces, .inl (cI, 192, .inl t_now_surfaces))] (some (.int o0)) := by
  refine CM_of (cc := cX9_flow) (maxL := 3) (ret := (some .int)) (by decide +kernel) rfl (Nat.le_of_ble_eq_true rfl) ?_
  intro p e s m args below meth c A Q hx hb hr hml hown hts hlocks hA hK hP hD hS hE hQ hAe ls hl
  have hown : s.vm.findClass RX9 = some m.cls := hown
  have hl : lv_has ls 3 [(0, .ref h_t), (1, .int p1), (2, .int p2)] := hl
  unfold f_X9_flow at hf
  refine lv_iload_n hx hb dX9_flow_0 rfl (lv_at hl 1 rfl) ?_
  obtain ⟨r1, hg2, hf⟩ := bd1_some hf
  refine CM_callS (As := [.int p1]) (rest := []) (wc := []) (w1 := []) (wr := [(h_t, .inr (7, fX9 h_t_now h_t_beforeRead h_t_firstImage h_t_secondImage h_t_valley h_t_ages h_t_fronts h_t_outburst h_t_text t_firstKept t_secondKept)), (h_t_now, .inr (1, fX1 h_t_now_surfaces h_t_now_cliffs h_t_now_boulders h_t_now_scratches h_t_now_numbers h_t_now_facts h_t_now_signs h_t_now_areas h_t_now_heights t_now_ridges)), (h_t_now_surfaces, .inl (cI, 192, .inl t_now_surfaces))]) (wo := [(h_t, .inr (7, fX9 h_t_now h_t_beforeRead h_t_firstImage h_t_secondImage h_t_valley h_t_ages h_t_fronts h_t_outburst h_t_text t_firstKept t_secondKept)), (h_t_now, .inr (1, fX1 h_t_now_surfaces h_t_now_cliffs h_t_now_boulders h_t_now_scratches h_t_now_numbers h_t_now_facts h_t_now_signs h_t_now_areas h_t_now_heights t_now_ridges)), (h_t_now_surfaces, .inl (cI, 192, .inl t_now_surfaces))]) (v := (some (.int r1))) ⟨hx, hb, hml, hown, hts⟩ (c_X9_isStage l dC dI cI cZ te p1 r1 hg2) (va_cwS 1 hts (gS kw_697 kw_698 kw_695 kw_699) rfl rfl rfl (by decide +kernel) ⟨Nat.le_of_ble_eq_true rfl, Nat.le_of_ble_eq_true rfl⟩) (kS_env te) hK hP hD hS hA hE [] [0, 1, 2] [0, 1, 2] rfl rfl (by decide) (by decide) (by decide) (by decide) rfl rfl hl.1 rfl (Nat.le_of_ble_eq_true rfl) dX9_flow_1 ⟨Nat.zero_le _, Nat.zero_le _⟩ (fun H locs hP hD hS => ?_)
  show W p l e rmX9_flow s m args below meth c H locs 0 0 Q (F0 m 4 ls [.int r1])
  refine lv_if_eq (tgt := 14) hx hb dX9_flow_4 (by decide) (fun c3 => ?_) (fun c3 => ?_)
  · replace hf := ifp c3 hf
    refine lv_bipush (v := (-2 : Int32)) hx hb dX9_flow_14 (by decide) ?_
    obtain rfl := inj1 hf
    subst hQ
    exact CM_iret hx hb hr rfl hlocks hAe hP hD hS dX9_flow_16
  · replace hf := ifn c3 hf
    refine lv_iload_n hx hb dX9_flow_7 rfl (lv_at hl 2 rfl) ?_
    obtain ⟨r4, hg5, hf⟩ := bd1_some hf
    refine CM_callS (As := [.int p2]) (rest := []) (wc := []) (w1 := []) (wr := [(h_t, .inr (7, fX9 h_t_now h_t_beforeRead h_t_firstImage h_t_secondImage h_t_valley h_t_ages h_t_fronts h_t_outburst h_t_text t_firstKept t_secondKept)), (h_t_now, .inr (1, fX1 h_t_now_surfaces h_t_now_cliffs h_t_now_boulders h_t_now_scratches h_t_now_numbers h_t_now_facts h_t_now_signs h_t_now_areas h_t_now_heights t_now_ridges)), (h_t_now_surfaces, .inl (cI, 192, .inl t_now_surfaces))]) (wo := [(h_t, .inr (7, fX9 h_t_now h_t_beforeRead h_t_firstImage h_t_secondImage h_t_valley h_t_ages h_t_fronts h_t_outburst h_t_text t_firstKept t_secondKept)), (h_t_now, .inr (1, fX1 h_t_now_surfaces h_t_now_cliffs h_t_now_boulders h_t_now_scratches h_t_now_numbers h_t_now_facts h_t_now_signs h_t_now_areas h_t_now_heights t_now_ridges)), (h_t_now_surfaces, .inl (cI, 192, .inl t_now_surfaces))]) (v := (some (.int r4))) ⟨hx, hb, hml, hown, hts⟩ (c_X9_isPlace l dC dI cI cZ te p2 r4 hg5) (va_cwS 1 hts (gS kw_700 kw_701 kw_695 kw_702) rfl rfl rfl (by decide +kernel) ⟨Nat.le_of_ble_eq_true rfl, Nat.le_of_ble_eq_true rfl⟩) (kS_env te) hK hP hD hS hA hE [] [0, 1, 2] [0, 1, 2] rfl rfl (by decide) (by decide) (by decide) (by decide) rfl rfl hl.1 rfl (Nat.le_of_ble_eq_true rfl) dX9_flow_8 ⟨Nat.zero_le _, Nat.zero_le _⟩ (fun H locs hP hD hS => ?_)
    show W p l e rmX9_flow s m args below meth c H locs 0 0 Q (F0 m 11 ls [.int r4])
    refine lv_if_ne (tgt := 17) hx hb dX9_flow_11 (by decide) (fun c6 => ?_) (fun c6 => ?_)
    · replace hf := ifn c6 hf
      refine lv_aload_n hx hb dX9_flow_17 rfl (lv_at hl 0 rfl) ?_
      refine va_get (D := (dC, dI)) (ci := 7) (v := .ref h_t_now) (C := RX9) (T := TX9) (N := 11) hx hb hts (in1 tw_X9) hown hK hP 0 rfl rfl 0 (by decide) (hts _ (List.mem_cons_of_mem _ kw_75)) (fun _ h9 => h9) rfl dX9_flow_18 ?_
      refine va_get (D := (dC, dI)) (ci := 1) (v := .ref h_t_now_surfaces) (C := RX1) (T := TX1) (N := 10) hx hb hts (in1 tw_X1) hown hK hP 1 rfl rfl 0 (by decide) (hts _ (List.mem_cons_of_mem _ kw_703)) (fun _ h9 => h9) rfl dX9_flow_21 ?_
      refine lv_iload_n hx hb dX9_flow_24 rfl (lv_at hl 1 rfl) ?_
      refine lv_iload_n hx hb dX9_flow_25 rfl (lv_at hl 2 rfl) ?_
      obtain ⟨r7, hg8, hf⟩ := bd1_some hf
      refine CM_callS (As := [.ref h_t_now_surfaces, .int p1, .int p2]) (rest := []) (wc := [(h_t_now_surfaces, .inl (cI, 192, .inl t_now_surfaces))]) (w1 := [(h_t_now_surfaces, .inl (cI, 192, .inl t_now_surfaces))]) (wr := [(h_t, .inr (7, fX9 h_t_now h_t_beforeRead h_t_firstImage h_t_secondImage h_t_valley h_t_ages h_t_fronts h_t_outburst h_t_text t_firstKept t_secondKept)), (h_t_now, .inr (1, fX1 h_t_now_surfaces h_t_now_cliffs h_t_now_boulders h_t_now_scratches h_t_now_numbers h_t_now_facts h_t_now_signs h_t_now_areas h_t_now_heights t_now_ridges))]) (wo := [(h_t, .inr (7, fX9 h_t_now h_t_beforeRead h_t_firstImage h_t_secondImage h_t_valley h_t_ages h_t_fronts h_t_outburst h_t_text t_firstKept t_secondKept)), (h_t_now, .inr (1, fX1 h_t_now_surfaces h_t_now_cliffs h_t_now_boulders h_t_now_scratches h_t_now_numbers h_t_now_facts h_t_now_signs h_t_now_areas h_t_now_heights t_now_ridges)), (h_t_now_surfaces, .inl (cI, 192, .inl t_now_surfaces))]) (v := (some (.int r7))) ⟨hx, hb, hml, hown, hts⟩ (c_X7_directionOfFlow l dC dI cI cZ te h_t_now_surfaces (192) t_now_surfaces p1 p2 r7 hg8) (va_cwS 3 hts (gS kw_709 kw_595 kw_81 kw_596) rfl rfl rfl (by decide +kernel) ⟨Nat.le_of_ble_eq_true rfl, Nat.le_of_ble_eq_true rfl⟩) (kS_env te) hK hP hD hS hA hE [2] [0, 1] [0, 1, 2] rfl rfl (by decide) (by decide) (by decide) (by decide) rfl rfl hl.1 rfl (Nat.le_of_ble_eq_true rfl) dX9_flow_26 ⟨Nat.zero_le _, Nat.zero_le _⟩ (fun H locs hP hD hS => ?_)
      show W p l e rmX9_flow s m args below meth c H locs 0 0 Q (F0 m 29 ls [.int r7])
      obtain rfl := inj1 hf
      subst hQ
      exact CM_iret hx hb hr rfl hlocks hAe hP hD hS dX9_flow_29
    · replace hf := ifp c6 hf
      refine lv_bipush (v := (-2 : Int32)) hx hb dX9_flow_14 (by decide) ?_
      obtain rfl := inj1 hf
      subst hQ
      exact CM_iret hx hb hr rfl hlocks hAe hP hD hS dX9_flow_16
def rmX9_isPlaceAndSort : Room := { frames := 2, cells := 0, slots := 0, locals := 42 }
abbrev wqX9_isPlaceAndSort : List Cond := Cond.code yX9_isPlaceAndSort cX9_isPlaceAndSort 2 (some .boolean) :: tG
set_option maxHeartbeats 4000000 in
set_option maxRecDepth 100000 in
theorem c_X9_isPlaceAndSort (l : Launch) (dC : Nat → ClassId) (dI : Nat → Nat → Nat) (cI cZ : ClassId) (te : Nat → Nat) (p1 : Int32) (p2 : Int32) (o0 : Int32) (hf : f_X9_isPlaceAndSort p1 p2 = some o0) : CM l yX9_isPlaceAndSort wqX9_isPlaceAndSort rmX9_isPlaceAndSort (kS te) dC dI cI cZ [.int p1, .int p2] [] [] (some (.int o0)) := by
  refine CM_of (cc := cX9_isPlaceAndSort) (maxL := 2) (ret := (some .boolean)) (by decide +kernel) rfl (Nat.le_of_ble_eq_true rfl) ?_
  intro p e s m args below meth c A Q hx hb hr hml hown hts hlocks hA hK hP hD hS hE hQ hAe ls hl
  have hown : s.vm.findClass RX9 = some m.cls := hown
  have hl : lv_has ls 2 [(0, .int p1), (1, .int p2)] := hl
  unfold f_X9_isPlaceAndSort at hf
  refine lv_iload_n hx hb dX9_isPlaceAndSort_0 rfl (lv_at hl 0 rfl) ?_
  obtain ⟨r1, hg2, hf⟩ := bd1_some hf
  refine CM_callS (As := [.int p1]) (rest := []) (wc := []) (w1 := []) (wr := []) (wo := []) (v := (some (.int r1))) ⟨hx, hb, hml, hown, hts⟩ (c_X9_isPlace l dC dI cI cZ te p1 r1 hg2) (va_cwS 1 hts (gS kw_700 kw_701 kw_695 kw_702) rfl rfl rfl (by decide +kernel) ⟨Nat.le_of_ble_eq_true rfl, Nat.le_of_ble_eq_true rfl⟩) (kS_env te) hK hP hD hS hA hE [] [] [] rfl rfl (by decide) (by decide) (by decide) (by decide) rfl rfl hl.1 rfl (Nat.le_of_ble_eq_true rfl) dX9_isPlaceAndSort_1 ⟨Nat.zero_le _, Nat.zero_le _⟩ (fun H locs hP hD hS => ?_)
  show W p l e rmX9_isPlaceAndSort s m args below meth c H locs 0 0 Q (F0 m 4 ls [.int r1])
  refine lv_if_eq (tgt := 20) hx hb dX9_isPlaceAndSort_4 (by decide) (fun c3 => ?_) (fun c3 => ?_)
  · replace hf := ifp c3 hf
    refine lv_iconst (v := (0 : Int32)) hx hb dX9_isPlaceAndSort_20 (by decide) ?_
    obtain rfl := inj1 hf
    subst hQ
    exact CM_iret hx hb hr rfl hlocks hAe hP hD hS dX9_isPlaceAndSort_21
  · replace hf := ifn c3 hf
    refine lv_iload_n hx hb dX9_isPlaceAndSort_7 rfl (lv_at hl 1 rfl) ?_
    refine lv_iconst (v := (0 : Int32)) hx hb dX9_isPlaceAndSort_8 (by decide) ?_
    refine lv_iconst (v := (5 : Int32)) hx hb dX9_isPlaceAndSort_9 (by decide) ?_
    obtain ⟨r4, hg5, hf⟩ := bd1_some hf
    refine CM_callS (As := [.int p2, .int (0 : Int32), .int (5 : Int32)]) (rest := []) (wc := []) (w1 := []) (wr := []) (wo := []) (v := (some (.int r4))) ⟨hx, hb, hml, hown, hts⟩ (c_X9_within l dC dI cI cZ te p2 (0 : Int32) (5 : Int32) r4 hg5) (va_cwS 3 hts (gS kw_693 kw_694 kw_695 kw_696) rfl rfl rfl (by decide +kernel) ⟨Nat.le_of_ble_eq_true rfl, Nat.le_of_ble_eq_true rfl⟩) (kS_env te) hK hP hD hS hA hE [] [] [] rfl rfl (by decide) (by decide) (by decide) (by decide) rfl rfl hl.1 rfl (Nat.le_of_ble_eq_true rfl) dX9_isPlaceAndSort_10 ⟨Nat.zero_le _, Nat.zero_le _⟩ (fun H locs hP hD hS => ?_)
    show W p l e rmX9_isPlaceAndSort s m args below meth c H locs 0 0 Q (F0 m 13 ls [.int r4])
    refine lv_if_eq (tgt := 20) hx hb dX9_isPlaceAndSort_13 (by decide) (fun c6 => ?_) (fun c6 => ?_)
    · replace hf := ifp c6 hf
      refine lv_iconst (v := (0 : Int32)) hx hb dX9_isPlaceAndSort_20 (by decide) ?_
      obtain rfl := inj1 hf
      subst hQ
      exact CM_iret hx hb hr rfl hlocks hAe hP hD hS dX9_isPlaceAndSort_21
    · replace hf := ifn c6 hf
      refine lv_iconst (v := (1 : Int32)) hx hb dX9_isPlaceAndSort_16 (by decide) ?_
      refine lv_goto (tgt := 21) hx hb dX9_isPlaceAndSort_17 (by decide) ?_
      obtain rfl := inj1 hf
      subst hQ
      exact CM_iret hx hb hr rfl hlocks hAe hP hD hS dX9_isPlaceAndSort_21
def rmX9_cliff : Room := { frames := 3, cells := 0, slots := 0, locals := 63 }
abbrev wqX9_cliff : List Cond := Cond.code yX9_cliff cX9_cliff 3 (some .int) :: tG
set_option maxHeartbeats 4000000 in
set_option maxRecDepth 100000 in
theorem c_X9_cliff (l : Launch) (dC : Nat → ClassId) (dI : Nat → Nat → Nat) (cI cZ : ClassId) (te : Nat → Nat) (h_t : Nat) (h_t_now : Nat) (h_t_beforeRead : Nat) (h_t_firstImage : Nat) (h_t_secondImage : Nat) (h_t_valley : Nat) (h_t_ages : Nat) (h_t_fronts : Nat) (h_t_outburst : Nat) (h_t_text : Nat) (h_t_now_surfaces : Nat) (h_t_now_cliffs : Nat) (h_t_now_boulders : Nat) (h_t_now_scratches : Nat) (h_t_now_numbers : Nat) (h_t_now_facts : Nat) (h_t_now_signs : Nat) (h_t_now_areas : Nat) (h_t_now_heights : Nat) (h_t_now_cliffs_cells : Nat) (t_firstKept : Int32) (t_secondKept : Int32) (t_now_ridges : Int32) (t_now_cliffs_limit : Int32) (t_now_cliffs_size : Int32) (n_t_now_cliffs_cells : Nat) (t_now_cliffs_cells : Nat → Int32) (p1 : Int32) (p2 : Int32) (o0 : Int32) (o1 : Int32) (o2 : Nat → Int32) (hf : f_X9_cliff t_now_cliffs_limit t_now_cliffs_size n_t_now_cliffs_cells t_now_cliffs_cells p1 p2 = some (o0, o1, o2)) : CM l yX9_cliff wqX9_cliff rmX9_cliff (kS te) dC dI cI cZ [.ref h_t, .int p1, .int p2] [(h_t, .inr (7, fX9 h_t_now h_t_beforeRead h_t_firstImage h_t_secondImage h_t_valley h_t_ages h_t_fronts h_t_outburst h_t_text t_firstKept t_secondKept)), (h_t_now, .inr (1, fX1 h_t_now_surfaces h_t_now_cliffs h_t_now_boulders h_t_now_scratches h_t_now_numbers h_t_now_facts h_t_now_signs h_t_now_areas h_t_now_heights t_now_ridges)), (h_t_now_cliffs, .inr (4, fX4 t_now_cliffs_limit h_t_now_cliffs_cells t_now_cliffs_size)), (h_t_now_cliffs_cells, .inl (cI, n_t_now_cliffs_cells, .inl t_now_cliffs_cells))] [(h_t, .inr (7, fX9 h_t_now h_t_beforeRead h_t_firstImage h_t_secondImage h_t_valley h_t_ages h_t_fronts h_t_outburst h_t_text t_firstKept t_secondKept)), (h_t_now, .inr (1, fX1 h_t_now_surfaces h_t_now_cliffs h_t_now_boulders h_t_now_scratches h_t_now_numbers h_t_now_facts h_t_now_signs h_t_now_areas h_t_now_heights t_now_ridges)), (h_t_now_cliffs, .inr (4, fX4 t_now_cliffs_limit h_t_now_cliffs_cells o1)), (h_t_now_cliffs_cells, .inl (cI, n_t_now_cliffs_cells, .inl o2))] (some (.int o0)) := by
  refine CM_of (cc := cX9_cliff) (maxL := 3) (ret := (some .int)) (by decide +kernel) rfl (Nat.le_of_ble_eq_true rfl) ?_
  intro p e s m args below meth c A Q hx hb hr hml hown hts hlocks hA hK hP hD hS hE hQ hAe ls hl
  have hown : s.vm.findClass RX9 = some m.cls := hown
  have hl : lv_has ls 3 [(0, .ref h_t), (1, .int p1), (2, .int p2)] := hl
  unfold f_X9_cliff at hf
  refine lv_iload_n hx hb dX9_cliff_0 rfl (lv_at hl 1 rfl) ?_
  refine lv_iload_n hx hb dX9_cliff_1 rfl (lv_at hl 2 rfl) ?_
  obtain ⟨r1, hg2, hf⟩ := bd1_some hf
  refine CM_callS (As := [.int p1, .int p2]) (rest := []) (wc := []) (w1 := []) (wr := [(h_t, .inr (7, fX9 h_t_now h_t_beforeRead h_t_firstImage h_t_secondImage h_t_valley h_t_ages h_t_fronts h_t_outburst h_t_text t_firstKept t_secondKept)), (h_t_now, .inr (1, fX1 h_t_now_surfaces h_t_now_cliffs h_t_now_boulders h_t_now_scratches h_t_now_numbers h_t_now_facts h_t_now_signs h_t_now_areas h_t_now_heights t_now_ridges)), (h_t_now_cliffs, .inr (4, fX4 t_now_cliffs_limit h_t_now_cliffs_cells t_now_cliffs_size)), (h_t_now_cliffs_cells, .inl (cI, n_t_now_cliffs_cells, .inl t_now_cliffs_cells))]) (wo := [(h_t, .inr (7, fX9 h_t_now h_t_beforeRead h_t_firstImage h_t_secondImage h_t_valley h_t_ages h_t_fronts h_t_outburst h_t_text t_firstKept t_secondKept)), (h_t_now, .inr (1, fX1 h_t_now_surfaces h_t_now_cliffs h_t_now_boulders h_t_now_scratches h_t_now_numbers h_t_now_facts h_t_now_signs h_t_now_areas h_t_now_heights t_now_ridges)), (h_t_now_cliffs, .inr (4, fX4 t_now_cliffs_limit h_t_now_cliffs_cells t_now_cliffs_size)), (h_t_now_cliffs_cells, .inl (cI, n_t_now_cliffs_cells, .inl t_now_cliffs_cells))]) (v := (some (.int r1))) ⟨hx, hb, hml, hown, hts⟩ (c_X9_isPlaceAndSort l dC dI cI cZ te p1 p2 r1 hg2) (va_cwS 2 hts (gS kw_710 kw_711 kw_695 kw_712) rfl rfl rfl (by decide +kernel) ⟨Nat.le_of_ble_eq_true rfl, Nat.le_of_ble_eq_true rfl⟩) (kS_env te) hK hP hD hS hA hE [] [0, 1, 2, 3] [0, 1, 2, 3] rfl rfl (by decide) (by decide) (by decide) (by decide) rfl rfl hl.1 rfl (Nat.le_of_ble_eq_true rfl) dX9_cliff_2 ⟨Nat.zero_le _, Nat.zero_le _⟩ (fun H locs hP hD hS => ?_)
  show W p l e rmX9_cliff s m args below meth c H locs 0 0 Q (F0 m 5 ls [.int r1])
  refine lv_if_eq (tgt := 26) hx hb dX9_cliff_5 (by decide) (fun c3 => ?_) (fun c3 => ?_)
  · replace hf := ifp c3 hf
    refine lv_bipush (v := (-2 : Int32)) hx hb dX9_cliff_26 (by decide) ?_
    obtain ⟨rfl, rfl, rfl⟩ := inj3 hf
    subst hQ
    exact CM_iret hx hb hr rfl hlocks hAe hP hD hS dX9_cliff_28
  · replace hf := ifn c3 hf
    refine lv_aload_n hx hb dX9_cliff_8 rfl (lv_at hl 0 rfl) ?_
    refine va_get (D := (dC, dI)) (ci := 7) (v := .ref h_t_now) (C := RX9) (T := TX9) (N := 11) hx hb hts (in1 tw_X9) hown hK hP 0 rfl rfl 0 (by decide) (hts _ (List.mem_cons_of_mem _ kw_75)) (fun _ h9 => h9) rfl dX9_cliff_9 ?_
    refine va_get (D := (dC, dI)) (ci := 1) (v := .ref h_t_now_cliffs) (C := RX1) (T := TX1) (N := 10) hx hb hts (in1 tw_X1) hown hK hP 1 rfl rfl 1 (by decide) (hts _ (List.mem_cons_of_mem _ kw_713)) (fun _ h9 => h9) rfl dX9_cliff_12 ?_
    refine lv_iload_n hx hb dX9_cliff_15 rfl (lv_at hl 1 rfl) ?_
    refine lv_iload_n hx hb dX9_cliff_16 rfl (lv_at hl 2 rfl) ?_
    refine lv_iconst (v := (0 : Int32)) hx hb dX9_cliff_17 (by decide) ?_
    refine lv_iconst (v := (0 : Int32)) hx hb dX9_cliff_18 (by decide) ?_
    refine lv_iconst (v := (0 : Int32)) hx hb dX9_cliff_19 (by decide) ?_
    obtain ⟨r4, x5, y6, hg7, hf⟩ := bd3_some hf
    refine CM_callV (C := RX4) (As := [.int p1, .int p2, .int (0 : Int32), .int (0 : Int32), .int (0 : Int32)]) (rest := []) (wc := [(h_t_now_cliffs, .inr (4, fX4 t_now_cliffs_limit h_t_now_cliffs_cells t_now_cliffs_size)), (h_t_now_cliffs_cells, .inl (cI, n_t_now_cliffs_cells, .inl t_now_cliffs_cells))]) (w1 := [(h_t_now_cliffs, .inr (4, fX4 t_now_cliffs_limit h_t_now_cliffs_cells x5)), (h_t_now_cliffs_cells, .inl (cI, n_t_now_cliffs_cells, .inl y6))]) (wr := [(h_t, .inr (7, fX9 h_t_now h_t_beforeRead h_t_firstImage h_t_secondImage h_t_valley h_t_ages h_t_fronts h_t_outburst h_t_text t_firstKept t_secondKept)), (h_t_now, .inr (1, fX1 h_t_now_surfaces h_t_now_cliffs h_t_now_boulders h_t_now_scratches h_t_now_numbers h_t_now_facts h_t_now_signs h_t_now_areas h_t_now_heights t_now_ridges))]) (wo := [(h_t, .inr (7, fX9 h_t_now h_t_beforeRead h_t_firstImage h_t_secondImage h_t_valley h_t_ages h_t_fronts h_t_outburst h_t_text t_firstKept t_secondKept)), (h_t_now, .inr (1, fX1 h_t_now_surfaces h_t_now_cliffs h_t_now_boulders h_t_now_scratches h_t_now_numbers h_t_now_facts h_t_now_signs h_t_now_areas h_t_now_heights t_now_ridges)), (h_t_now_cliffs, .inr (4, fX4 t_now_cliffs_limit h_t_now_cliffs_cells x5)), (h_t_now_cliffs_cells, .inl (cI, n_t_now_cliffs_cells, .inl y6))]) (v := (some (.int r4))) ⟨hx, hb, hml, hown, hts⟩ (c_X4_add l dC dI cI cZ te h_t_now_cliffs h_t_now_cliffs_cells t_now_cliffs_limit t_now_cliffs_size n_t_now_cliffs_cells t_now_cliffs_cells p1 p2 (0 : Int32) (0 : Int32) (0 : Int32) r4 x5 y6 hg7) (cwV 5 hts (gV kw_714 kw_715 kw_716 kw_19 kw_717) rfl rfl rfl (by decide +kernel) ⟨Nat.le_of_ble_eq_true rfl, Nat.le_of_ble_eq_true rfl⟩) (kS_env te) hK hP hD hS hA hE [2, 3] [0, 1] [0, 1, 2, 3] rfl rfl (by decide) (by decide) (by decide) (by decide) rfl 2 4 rfl rfl rfl rfl hl.1 rfl (Nat.le_of_ble_eq_true rfl) dX9_cliff_20 ⟨Nat.zero_le _, Nat.zero_le _⟩ (fun H locs hP hD hS => ?_)
    show W p l e rmX9_cliff s m args below meth c H locs 0 0 Q (F0 m 23 ls [.int r4])
    refine lv_goto (tgt := 28) hx hb dX9_cliff_23 (by decide) ?_
    obtain ⟨rfl, rfl, rfl⟩ := inj3 hf
    subst hQ
    exact CM_iret hx hb hr rfl hlocks hAe hP hD hS dX9_cliff_28
def rmX9_boulder : Room := { frames := 3, cells := 0, slots := 0, locals := 63 }
abbrev wqX9_boulder : List Cond := Cond.code yX9_boulder cX9_boulder 3 (some .int) :: tG
set_option maxHeartbeats 4000000 in
set_option maxRecDepth 100000 in
theorem c_X9_boulder (l : Launch) (dC : Nat → ClassId) (dI : Nat → Nat → Nat) (cI cZ : ClassId) (te : Nat → Nat) (h_t : Nat) (h_t_now : Nat) (h_t_beforeRead : Nat) (h_t_firstImage : Nat) (h_t_secondImage : Nat) (h_t_valley : Nat) (h_t_ages : Nat) (h_t_fronts : Nat) (h_t_outburst : Nat) (h_t_text : Nat) (h_t_now_surfaces : Nat) (h_t_now_cliffs : Nat) (h_t_now_boulders : Nat) (h_t_now_scratches : Nat) (h_t_now_numbers : Nat) (h_t_now_facts : Nat) (h_t_now_signs : Nat) (h_t_now_areas : Nat) (h_t_now_heights : Nat) (h_t_now_boulders_cells : Nat) (t_firstKept : Int32) (t_secondKept : Int32) (t_now_ridges : Int32) (t_now_boulders_limit : Int32) (t_now_boulders_size : Int32) (n_t_now_boulders_cells : Nat) (t_now_boulders_cells : Nat → Int32) (p1 : Int32) (p2 : Int32) (o0 : Int32) (o1 : Int32) (o2 : Nat → Int32) (hf : f_X9_boulder t_now_boulders_limit t_now_boulders_size n_t_now_boulders_cells t_now_boulders_cells p1 p2 = some (o0, o1, o2)) : CM l yX9_boulder wqX9_boulder rmX9_boulder (kS te) dC dI cI cZ [.ref h_t, .int p1, .int p2] [(h_t, .inr (7, fX9 h_t_now h_t_beforeRead h_t_firstImage h_t_secondImage h_t_valley h_t_ages h_t_fronts h_t_outburst h_t_text t_firstKept t_secondKept)), (h_t_now, .inr (1, fX1 h_t_now_surfaces h_t_now_cliffs h_t_now_boulders h_t_now_scratches h_t_now_numbers h_t_now_facts h_t_now_signs h_t_now_areas h_t_now_heights t_now_ridges)), (h_t_now_boulders, .inr (4, fX4 t_now_boulders_limit h_t_now_boulders_cells t_now_boulders_size)), (h_t_now_boulders_cells, .inl (cI, n_t_now_boulders_cells, .inl t_now_boulders_cells))] [(h_t, .inr (7, fX9 h_t_now h_t_beforeRead h_t_firstImage h_t_secondImage h_t_valley h_t_ages h_t_fronts h_t_outburst h_t_text t_firstKept t_secondKept)), (h_t_now, .inr (1, fX1 h_t_now_surfaces h_t_now_cliffs h_t_now_boulders h_t_now_scratches h_t_now_numbers h_t_now_facts h_t_now_signs h_t_now_areas h_t_now_heights t_now_ridges)), (h_t_now_boulders, .inr (4, fX4 t_now_boulders_limit h_t_now_boulders_cells o1)), (h_t_now_boulders_cells, .inl (cI, n_t_now_boulders_cells, .inl o2))] (some (.int o0)) := by
  refine CM_of (cc := cX9_boulder) (maxL := 3) (ret := (some .int)) (by decide +kernel) rfl (Nat.le_of_ble_eq_true rfl) ?_
  intro p e s m args below meth c A Q hx hb hr hml hown hts hlocks hA hK hP hD hS hE hQ hAe ls hl
  have hown : s.vm.findClass RX9 = some m.cls := hown
  have hl : lv_has ls 3 [(0, .ref h_t), (1, .int p1), (2, .int p2)] := hl
  unfold f_X9_boulder at hf
  refine lv_iload_n hx hb dX9_boulder_0 rfl (lv_at hl 1 rfl) ?_
  refine lv_iload_n hx hb dX9_boulder_1 rfl (lv_at hl 2 rfl) ?_
  obtain ⟨r1, hg2, hf⟩ := bd1_some hf
  refine CM_callS (As := [.int p1, .int p2]) (rest := []) (wc := []) (w1 := []) (wr := [(h_t, .inr (7, fX9 h_t_now h_t_beforeRead h_t_firstImage h_t_secondImage h_t_valley h_t_ages h_t_fronts h_t_outburst h_t_text t_firstKept t_secondKept)), (h_t_now, .inr (1, fX1 h_t_now_surfaces h_t_now_cliffs h_t_now_boulders h_t_now_scratches h_t_now_numbers h_t_now_facts h_t_now_signs h_t_now_areas h_t_now_heights t_now_ridges)), (h_t_now_boulders, .inr (4, fX4 t_now_boulders_limit h_t_now_boulders_cells t_now_boulders_size)), (h_t_now_boulders_cells, .inl (cI, n_t_now_boulders_cells, .inl t_now_boulders_cells))]) (wo := [(h_t, .inr (7, fX9 h_t_now h_t_beforeRead h_t_firstImage h_t_secondImage h_t_valley h_t_ages h_t_fronts h_t_outburst h_t_text t_firstKept t_secondKept)), (h_t_now, .inr (1, fX1 h_t_now_surfaces h_t_now_cliffs h_t_now_boulders h_t_now_scratches h_t_now_numbers h_t_now_facts h_t_now_signs h_t_now_areas h_t_now_heights t_now_ridges)), (h_t_now_boulders, .inr (4, fX4 t_now_boulders_limit h_t_now_boulders_cells t_now_boulders_size)), (h_t_now_boulders_cells, .inl (cI, n_t_now_boulders_cells, .inl t_now_boulders_cells))]) (v := (some (.int r1))) ⟨hx, hb, hml, hown, hts⟩ (c_X9_isPlaceAndSort l dC dI cI cZ te p1 p2 r1 hg2) (va_cwS 2 hts (gS kw_710 kw_711 kw_695 kw_712) rfl rfl rfl (by decide +kernel) ⟨Nat.le_of_ble_eq_true rfl, Nat.le_of_ble_eq_true rfl⟩) (kS_env te) hK hP hD hS hA hE [] [0, 1, 2, 3] [0, 1, 2, 3] rfl rfl (by decide) (by decide) (by decide) (by decide) rfl rfl hl.1 rfl (Nat.le_of_ble_eq_true rfl) dX9_boulder_2 ⟨Nat.zero_le _, Nat.zero_le _⟩ (fun H locs hP hD hS => ?_)
  show W p l e rmX9_boulder s m args below meth c H locs 0 0 Q (F0 m 5 ls [.int r1])
  refine lv_if_eq (tgt := 26) hx hb dX9_boulder_5 (by decide) (fun c3 => ?_) (fun c3 => ?_)
  · replace hf := ifp c3 hf
    refine lv_bipush (v := (-2 : Int32)) hx hb dX9_boulder_26 (by decide) ?_
    obtain ⟨rfl, rfl, rfl⟩ := inj3 hf
    subst hQ
    exact CM_iret hx hb hr rfl hlocks hAe hP hD hS dX9_boulder_28
  · replace hf := ifn c3 hf
    refine lv_aload_n hx hb dX9_boulder_8 rfl (lv_at hl 0 rfl) ?_
    refine va_get (D := (dC, dI)) (ci := 7) (v := .ref h_t_now) (C := RX9) (T := TX9) (N := 11) hx hb hts (in1 tw_X9) hown hK hP 0 rfl rfl 0 (by decide) (hts _ (List.mem_cons_of_mem _ kw_75)) (fun _ h9 => h9) rfl dX9_boulder_9 ?_
    refine va_get (D := (dC, dI)) (ci := 1) (v := .ref h_t_now_boulders) (C := RX1) (T := TX1) (N := 10) hx hb hts (in1 tw_X1) hown hK hP 1 rfl rfl 2 (by decide) (hts _ (List.mem_cons_of_mem _ kw_718)) (fun _ h9 => h9) rfl dX9_boulder_12 ?_
    refine lv_iload_n hx hb dX9_boulder_15 rfl (lv_at hl 1 rfl) ?_
    refine lv_iload_n hx hb dX9_boulder_16 rfl (lv_at hl 2 rfl) ?_
    refine lv_iconst (v := (0 : Int32)) hx hb dX9_boulder_17 (by decide) ?_
    refine lv_iconst (v := (0 : Int32)) hx hb dX9_boulder_18 (by decide) ?_
    refine lv_iconst (v := (0 : Int32)) hx hb dX9_boulder_19 (by decide) ?_
    obtain ⟨r4, x5, y6, hg7, hf⟩ := bd3_some hf
    refine CM_callV (C := RX4) (As := [.int p1, .int p2, .int (0 : Int32), .int (0 : Int32), .int (0 : Int32)]) (rest := []) (wc := [(h_t_now_boulders, .inr (4, fX4 t_now_boulders_limit h_t_now_boulders_cells t_now_boulders_size)), (h_t_now_boulders_cells, .inl (cI, n_t_now_boulders_cells, .inl t_now_boulders_cells))]) (w1 := [(h_t_now_boulders, .inr (4, fX4 t_now_boulders_limit h_t_now_boulders_cells x5)), (h_t_now_boulders_cells, .inl (cI, n_t_now_boulders_cells, .inl y6))]) (wr := [(h_t, .inr (7, fX9 h_t_now h_t_beforeRead h_t_firstImage h_t_secondImage h_t_valley h_t_ages h_t_fronts h_t_outburst h_t_text t_firstKept t_secondKept)), (h_t_now, .inr (1, fX1 h_t_now_surfaces h_t_now_cliffs h_t_now_boulders h_t_now_scratches h_t_now_numbers h_t_now_facts h_t_now_signs h_t_now_areas h_t_now_heights t_now_ridges))]) (wo := [(h_t, .inr (7, fX9 h_t_now h_t_beforeRead h_t_firstImage h_t_secondImage h_t_valley h_t_ages h_t_fronts h_t_outburst h_t_text t_firstKept t_secondKept)), (h_t_now, .inr (1, fX1 h_t_now_surfaces h_t_now_cliffs h_t_now_boulders h_t_now_scratches h_t_now_numbers h_t_now_facts h_t_now_signs h_t_now_areas h_t_now_heights t_now_ridges)), (h_t_now_boulders, .inr (4, fX4 t_now_boulders_limit h_t_now_boulders_cells x5)), (h_t_now_boulders_cells, .inl (cI, n_t_now_boulders_cells, .inl y6))]) (v := (some (.int r4))) ⟨hx, hb, hml, hown, hts⟩ (c_X4_add l dC dI cI cZ te h_t_now_boulders h_t_now_boulders_cells t_now_boulders_limit t_now_boulders_size n_t_now_boulders_cells t_now_boulders_cells p1 p2 (0 : Int32) (0 : Int32) (0 : Int32) r4 x5 y6 hg7) (cwV 5 hts (gV kw_714 kw_715 kw_716 kw_19 kw_717) rfl rfl rfl (by decide +kernel) ⟨Nat.le_of_ble_eq_true rfl, Nat.le_of_ble_eq_true rfl⟩) (kS_env te) hK hP hD hS hA hE [2, 3] [0, 1] [0, 1, 2, 3] rfl rfl (by decide) (by decide) (by decide) (by decide) rfl 2 4 rfl rfl rfl rfl hl.1 rfl (Nat.le_of_ble_eq_true rfl) dX9_boulder_20 ⟨Nat.zero_le _, Nat.zero_le _⟩ (fun H locs hP hD hS => ?_)
    show W p l e rmX9_boulder s m args below meth c H locs 0 0 Q (F0 m 23 ls [.int r4])
    refine lv_goto (tgt := 28) hx hb dX9_boulder_23 (by decide) ?_
    obtain ⟨rfl, rfl, rfl⟩ := inj3 hf
    subst hQ
    exact CM_iret hx hb hr rfl hlocks hAe hP hD hS dX9_boulder_28
def rmX9_fits : Room := { frames := 4, cells := 0, slots := 0, locals := 98 }
abbrev wqX9_fits : List Cond := Cond.code yX9_fits cX9_fits 2 (some .int) :: tG
set_option maxHeartbeats 4000000 in
set_option maxRecDepth 100000 in
theorem c_X9_fits (l : Launch) (dC : Nat → ClassId) (dI : Nat → Nat → Nat) (cI cZ : ClassId) (te : Nat → Nat) (h_t : Nat) (h_t_now : Nat) (h_t_beforeRead : Nat) (h_t_firstImage : Nat) (h_t_secondImage : Nat) (h_t_valley : Nat) (h_t_ages : Nat) (h_t_fronts : Nat) (h_t_outburst : Nat) (h_t_text : Nat) (h_t_now_surfaces : Nat) (h_t_now_cliffs : Nat) (h_t_now_boulders : Nat) (h_t_now_scratches : Nat) (h_t_now_numbers : Nat) (h_t_now_facts : Nat) (h_t_now_signs : Nat) (h_t_now_areas : Nat) (h_t_now_heights : Nat) (h_t_now_boulders_cells : Nat) (h_t_valley_next : Nat) (h_t_valley_stepsToGoal : Nat) (h_t_valley_stepsFromEarlier : Nat) (h_t_now_cliffs_cells : Nat) (t_firstKept : Int32) (t_secondKept : Int32) (t_now_ridges : Int32) (t_now_boulders_limit : Int32) (t_now_boulders_size : Int32) (n_t_now_boulders_cells : Nat) (t_now_boulders_cells : Nat → Int32) (t_valley_stepsToGoal : Nat → Int32) (t_now_surfaces : Nat → Int32) (t_valley_next : Nat → Int32) (t_valley_stepsFromEarlier : Nat → Int32) (t_now_cliffs_limit : Int32) (t_now_cliffs_size : Int32) (n_t_now_cliffs_cells : Nat) (t_now_cliffs_cells : Nat → Int32) (p1 : Int32) (o0 : Int32) (o1 : Nat → Int32) (o2 : Nat → Int32) (o3 : Nat → Int32) (hf : f_X9_fits t_now_boulders_size n_t_now_boulders_cells t_now_boulders_cells t_valley_stepsToGoal t_now_surfaces t_valley_next t_valley_stepsFromEarlier t_now_cliffs_size n_t_now_cliffs_cells t_now_cliffs_cells p1 = some (o0, o1, o2, o3)) : CM l yX9_fits wqX9_fits rmX9_fits (kS te) dC dI cI cZ [.ref h_t, .int p1] [(h_t, .inr (7, fX9 h_t_now h_t_beforeRead h_t_firstImage h_t_secondImage h_t_valley h_t_ages h_t_fronts h_t_outburst h_t_text t_firstKept t_secondKept)), (h_t_now, .inr (1, fX1 h_t_now_surfaces h_t_now_cliffs h_t_now_boulders h_t_now_scratches h_t_now_numbers h_t_now_facts h_t_now_signs h_t_now_areas h_t_now_heights t_now_ridges)), (h_t_now_boulders, .inr (4, fX4 t_now_boulders_limit h_t_now_boulders_cells t_now_boulders_size)), (h_t_now_boulders_cells, .inl (cI, n_t_now_boulders_cells, .inl t_now_boulders_cells)), (h_t_valley, .inr (6, fX7 h_t_valley_next h_t_valley_stepsToGoal h_t_valley_stepsFromEarlier)), (h_t_valley_stepsToGoal, .inl (cI, 64, .inl t_valley_stepsToGoal)), (h_t_now_surfaces, .inl (cI, 192, .inl t_now_surfaces)), (h_t_valley_next, .inl (cI, 64, .inl t_valley_next)), (h_t_valley_stepsFromEarlier, .inl (cI, 64, .inl t_valley_stepsFromEarlier)), (h_t_now_cliffs, .inr (4, fX4 t_now_cliffs_limit h_t_now_cliffs_cells t_now_cliffs_size)), (h_t_now_cliffs_cells, .inl (cI, n_t_now_cliffs_cells, .inl t_now_cliffs_cells))] [(h_t, .inr (7, fX9 h_t_now h_t_beforeRead h_t_firstImage h_t_secondImage h_t_valley h_t_ages h_t_fronts h_t_outburst h_t_text t_firstKept t_secondKept)), (h_t_now, .inr (1, fX1 h_t_now_surfaces h_t_now_cliffs h_t_now_boulders h_t_now_scratches h_t_now_numbers h_t_now_facts h_t_now_signs h_t_now_areas h_t_now_heights t_now_ridges)), (h_t_now_boulders, .inr (4, fX4 t_now_boulders_limit h_t_now_boulders_cells t_now_boulders_size)), (h_t_now_boulders_cells, .inl (cI, n_t_now_boulders_cells, .inl t_now_boulders_cells)), (h_t_valley, .inr (6, fX7 h_t_valley_next h_t_valley_stepsToGoal h_t_valley_stepsFromEarlier)), (h_t_valley_stepsToGoal, .inl (cI, 64, .inl o1)), (h_t_now_surfaces, .inl (cI, 192, .inl t_now_surfaces)), (h_t_valley_next, .inl (cI, 64, .inl o2)), (h_t_valley_stepsFromEarlier, .inl (cI, 64, .inl o3)), (h_t_now_cliffs, .inr (4, fX4 t_now_cliffs_limit h_t_now_cliffs_cells t_now_cliffs_size)), (h_t_now_cliffs_cells, .inl (cI, n_t_now_cliffs_cells, .inl t_now_cliffs_cells))] (some (.int o0)) := by
  refine CM_of (cc := cX9_fits) (maxL := 2) (ret := (some .int)) (by decide +kernel) rfl (Nat.le_of_ble_eq_true rfl) ?_
  intro p e s m args below meth c A Q hx hb hr hml hown hts hlocks hA hK hP hD hS hE hQ hAe ls hl
  have hown : s.vm.findClass RX9 = some m.cls := hown
  have hl : lv_has ls 2 [(0, .ref h_t), (1, .int p1)] := hl
  unfold f_X9_fits at hf
  refine lv_aload_n hx hb dX9_fits_0 rfl (lv_at hl 0 rfl) ?_
  refine va_get (D := (dC, dI)) (ci := 7) (v := .ref h_t_now) (C := RX9) (T := TX9) (N := 11) hx hb hts (in1 tw_X9) hown hK hP 0 rfl rfl 0 (by decide) (hts _ (List.mem_cons_of_mem _ kw_75)) (fun _ h9 => h9) rfl dX9_fits_1 ?_
  refine va_get (D := (dC, dI)) (ci := 1) (v := .ref h_t_now_boulders) (C := RX1) (T := TX1) (N := 10) hx hb hts (in1 tw_X1) hown hK hP 1 rfl rfl 2 (by decide) (hts _ (List.mem_cons_of_mem _ kw_718)) (fun _ h9 => h9) rfl dX9_fits_4 ?_
  refine lv_iload_n hx hb dX9_fits_7 rfl (lv_at hl 1 rfl) ?_
  obtain ⟨r1, hg2, hf⟩ := bd1_some hf
  refine CM_callV (C := RX4) (As := [.int p1]) (rest := []) (wc := [(h_t_now_boulders, .inr (4, fX4 t_now_boulders_limit h_t_now_boulders_cells t_now_boulders_size))]) (w1 := [(h_t_now_boulders, .inr (4, fX4 t_now_boulders_limit h_t_now_boulders_cells t_now_boulders_size))]) (wr := [(h_t, .inr (7, fX9 h_t_now h_t_beforeRead h_t_firstImage h_t_secondImage h_t_valley h_t_ages h_t_fronts h_t_outburst h_t_text t_firstKept t_secondKept)), (h_t_now, .inr (1, fX1 h_t_now_surfaces h_t_now_cliffs h_t_now_boulders h_t_now_scratches h_t_now_numbers h_t_now_facts h_t_now_signs h_t_now_areas h_t_now_heights t_now_ridges)), (h_t_now_boulders_cells, .inl (cI, n_t_now_boulders_cells, .inl t_now_boulders_cells)), (h_t_valley, .inr (6, fX7 h_t_valley_next h_t_valley_stepsToGoal h_t_valley_stepsFromEarlier)), (h_t_valley_stepsToGoal, .inl (cI, 64, .inl t_valley_stepsToGoal)), (h_t_now_surfaces, .inl (cI, 192, .inl t_now_surfaces)), (h_t_valley_next, .inl (cI, 64, .inl t_valley_next)), (h_t_valley_stepsFromEarlier, .inl (cI, 64, .inl t_valley_stepsFromEarlier)), (h_t_now_cliffs, .inr (4, fX4 t_now_cliffs_limit h_t_now_cliffs_cells t_now_cliffs_size)), (h_t_now_cliffs_cells, .inl (cI, n_t_now_cliffs_cells, .inl t_now_cliffs_cells))]) (wo := [(h_t, .inr (7, fX9 h_t_now h_t_beforeRead h_t_firstImage h_t_secondImage h_t_valley h_t_ages h_t_fronts h_t_outburst h_t_text t_firstKept t_secondKept)), (h_t_now, .inr (1, fX1 h_t_now_surfaces h_t_now_cliffs h_t_now_boulders h_t_now_scratches h_t_now_numbers h_t_now_facts h_t_now_signs h_t_now_areas h_t_now_heights t_now_ridges)), (h_t_now_boulders, .inr (4, fX4 t_now_boulders_limit h_t_now_boulders_cells t_now_boulders_size)), (h_t_now_boulders_cells, .inl (cI, n_t_now_boulders_cells, .inl t_now_boulders_cells)), (h_t_valley, .inr (6, fX7 h_t_valley_next h_t_valley_stepsToGoal h_t_valley_stepsFromEarlier)), (h_t_valley_stepsToGoal, .inl (cI, 64, .inl t_valley_stepsToGoal)), (h_t_now_surfaces, .inl (cI, 192, .inl t_now_surfaces)), (h_t_valley_next, .inl (cI, 64, .inl t_valley_next)), (h_t_valley_stepsFromEarlier, .inl (cI, 64, .inl t_valley_stepsFromEarlier)), (h_t_now_cliffs, .inr (4, fX4 t_now_cliffs_limit h_t_now_cliffs_cells t_now_cliffs_size)), (h_t_now_cliffs_cells, .inl (cI, n_t_now_cliffs_cells, .inl t_now_cliffs_cells))]) (v := (some (.int r1))) ⟨hx, hb, hml, hown, hts⟩ (c_X4_has l dC dI cI cZ te h_t_now_boulders h_t_now_boulders_cells t_now_boulders_limit t_now_boulders_size p1 r1 hg2) (cwV 1 hts (gV kw_719 kw_408 kw_409 kw_19 kw_410) rfl rfl rfl (by decide +kernel) ⟨Nat.le_of_ble_eq_true rfl, Nat.le_of_ble_eq_true rfl⟩) (kS_env te) hK hP hD hS hA hE [2] [0, 1, 3, 4, 5, 6, 7, 8, 9, 10] [0, 1, 10, 2, 3, 4, 5, 6, 7, 8, 9] rfl rfl (by decide) (by decide) (by decide) (by decide) rfl 2 4 rfl rfl rfl rfl hl.1 rfl (Nat.le_of_ble_eq_true rfl) dX9_fits_8 ⟨Nat.zero_le _, Nat.zero_le _⟩ (fun H locs hP hD hS => ?_)
  show W p l e rmX9_fits s m args below meth c H locs 0 0 Q (F0 m 11 ls [.int r1])
  refine lv_if_eq (tgt := 29) hx hb dX9_fits_11 (by decide) (fun c3 => ?_) (fun c3 => ?_)
  · replace hf := ifp c3 hf
    refine lv_bipush (v := (-2 : Int32)) hx hb dX9_fits_29 (by decide) ?_
    obtain ⟨rfl, rfl, rfl, rfl⟩ := inj4 hf
    subst hQ
    exact CM_iret hx hb hr rfl hlocks hAe hP hD hS dX9_fits_31
  · replace hf := ifn c3 hf
    refine lv_aload_n hx hb dX9_fits_14 rfl (lv_at hl 0 rfl) ?_
    refine va_get (D := (dC, dI)) (ci := 7) (v := .ref h_t_valley) (C := RX9) (T := TX9) (N := 11) hx hb hts (in1 tw_X9) hown hK hP 0 rfl rfl 4 (by decide) (hts _ (List.mem_cons_of_mem _ kw_85)) (fun _ h9 => h9) rfl dX9_fits_15 ?_
    refine lv_aload_n hx hb dX9_fits_18 rfl (lv_at hl 0 rfl) ?_
    refine va_get (D := (dC, dI)) (ci := 7) (v := .ref h_t_now) (C := RX9) (T := TX9) (N := 11) hx hb hts (in1 tw_X9) hown hK hP 0 rfl rfl 0 (by decide) (hts _ (List.mem_cons_of_mem _ kw_75)) (fun _ h9 => h9) rfl dX9_fits_19 ?_
    refine lv_iload_n hx hb dX9_fits_22 rfl (lv_at hl 1 rfl) ?_
    obtain ⟨r4, y5, y6, y7, hg8, hf⟩ := bd4_some hf
    refine CM_callV (C := RX7) (As := [.ref h_t_now, .int p1]) (rest := []) (wc := [(h_t_now, .inr (1, fX1 h_t_now_surfaces h_t_now_cliffs h_t_now_boulders h_t_now_scratches h_t_now_numbers h_t_now_facts h_t_now_signs h_t_now_areas h_t_now_heights t_now_ridges)), (h_t_now_boulders, .inr (4, fX4 t_now_boulders_limit h_t_now_boulders_cells t_now_boulders_size)), (h_t_now_boulders_cells, .inl (cI, n_t_now_boulders_cells, .inl t_now_boulders_cells)), (h_t_valley, .inr (6, fX7 h_t_valley_next h_t_valley_stepsToGoal h_t_valley_stepsFromEarlier)), (h_t_valley_stepsToGoal, .inl (cI, 64, .inl t_valley_stepsToGoal)), (h_t_now_surfaces, .inl (cI, 192, .inl t_now_surfaces)), (h_t_valley_next, .inl (cI, 64, .inl t_valley_next)), (h_t_valley_stepsFromEarlier, .inl (cI, 64, .inl t_valley_stepsFromEarlier)), (h_t_now_cliffs, .inr (4, fX4 t_now_cliffs_limit h_t_now_cliffs_cells t_now_cliffs_size)), (h_t_now_cliffs_cells, .inl (cI, n_t_now_cliffs_cells, .inl t_now_cliffs_cells))]) (w1 := [(h_t_now, .inr (1, fX1 h_t_now_surfaces h_t_now_cliffs h_t_now_boulders h_t_now_scratches h_t_now_numbers h_t_now_facts h_t_now_signs h_t_now_areas h_t_now_heights t_now_ridges)), (h_t_now_boulders, .inr (4, fX4 t_now_boulders_limit h_t_now_boulders_cells t_now_boulders_size)), (h_t_now_boulders_cells, .inl (cI, n_t_now_boulders_cells, .inl t_now_boulders_cells)), (h_t_valley, .inr (6, fX7 h_t_valley_next h_t_valley_stepsToGoal h_t_valley_stepsFromEarlier)), (h_t_valley_stepsToGoal, .inl (cI, 64, .inl y5)), (h_t_now_surfaces, .inl (cI, 192, .inl t_now_surfaces)), (h_t_valley_next, .inl (cI, 64, .inl y6)), (h_t_valley_stepsFromEarlier, .inl (cI, 64, .inl y7)), (h_t_now_cliffs, .inr (4, fX4 t_now_cliffs_limit h_t_now_cliffs_cells t_now_cliffs_size)), (h_t_now_cliffs_cells, .inl (cI, n_t_now_cliffs_cells, .inl t_now_cliffs_cells))]) (wr := [(h_t, .inr (7, fX9 h_t_now h_t_beforeRead h_t_firstImage h_t_secondImage h_t_valley h_t_ages h_t_fronts h_t_outburst h_t_text t_firstKept t_secondKept))]) (wo := [(h_t, .inr (7, fX9 h_t_now h_t_beforeRead h_t_firstImage h_t_secondImage h_t_valley h_t_ages h_t_fronts h_t_outburst h_t_text t_firstKept t_secondKept)), (h_t_now, .inr (1, fX1 h_t_now_surfaces h_t_now_cliffs h_t_now_boulders h_t_now_scratches h_t_now_numbers h_t_now_facts h_t_now_signs h_t_now_areas h_t_now_heights t_now_ridges)), (h_t_now_boulders, .inr (4, fX4 t_now_boulders_limit h_t_now_boulders_cells t_now_boulders_size)), (h_t_now_boulders_cells, .inl (cI, n_t_now_boulders_cells, .inl t_now_boulders_cells)), (h_t_valley, .inr (6, fX7 h_t_valley_next h_t_valley_stepsToGoal h_t_valley_stepsFromEarlier)), (h_t_valley_stepsToGoal, .inl (cI, 64, .inl y5)), (h_t_now_surfaces, .inl (cI, 192, .inl t_now_surfaces)), (h_t_valley_next, .inl (cI, 64, .inl y6)), (h_t_valley_stepsFromEarlier, .inl (cI, 64, .inl y7)), (h_t_now_cliffs, .inr (4, fX4 t_now_cliffs_limit h_t_now_cliffs_cells t_now_cliffs_size)), (h_t_now_cliffs_cells, .inl (cI, n_t_now_cliffs_cells, .inl t_now_cliffs_cells))]) (v := (some (.int r4))) ⟨hx, hb, hml, hown, hts⟩ (c_X7_fittingCliffs l dC dI cI cZ te h_t_valley h_t_now h_t_now_surfaces h_t_now_cliffs h_t_now_boulders h_t_now_scratches h_t_now_numbers h_t_now_facts h_t_now_signs h_t_now_areas h_t_now_heights h_t_now_boulders_cells h_t_valley_next h_t_valley_stepsToGoal h_t_valley_stepsFromEarlier h_t_now_cliffs_cells t_now_ridges t_now_boulders_limit t_now_boulders_size n_t_now_boulders_cells t_now_boulders_cells t_valley_stepsToGoal t_now_surfaces t_valley_next t_valley_stepsFromEarlier t_now_cliffs_limit t_now_cliffs_size n_t_now_cliffs_cells t_now_cliffs_cells p1 r4 y5 y6 y7 hg8) (cwV 2 hts (gV kw_720 kw_721 kw_722 kw_81 kw_723) rfl rfl rfl (by decide +kernel) ⟨Nat.le_of_ble_eq_true rfl, Nat.le_of_ble_eq_true rfl⟩) (kS_env te) hK hP hD hS hA hE [1, 2, 3, 4, 5, 6, 7, 8, 9, 10] [0] [0, 1, 2, 3, 4, 5, 6, 7, 8, 9, 10] rfl rfl (by decide) (by decide) (by decide) (by decide) rfl 4 6 rfl rfl rfl rfl hl.1 rfl (Nat.le_of_ble_eq_true rfl) dX9_fits_23 ⟨Nat.zero_le _, Nat.zero_le _⟩ (fun H locs hP hD hS => ?_)
    show W p l e rmX9_fits s m args below meth c H locs 0 0 Q (F0 m 26 ls [.int r4])
    refine lv_goto (tgt := 31) hx hb dX9_fits_26 (by decide) ?_
    obtain ⟨rfl, rfl, rfl, rfl⟩ := inj4 hf
    subst hQ
    exact CM_iret hx hb hr rfl hlocks hAe hP hD hS dX9_fits_31
