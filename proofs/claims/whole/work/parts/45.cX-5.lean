def rmX2_draw : Room := { frames := 4, cells := 0, slots := 0, locals := 93 }
set_option maxRecDepth 20000 in
theorem kX2_draw_0 : ∀ w ∈ u_ws RX1 TX1 10, w ∈ wsX2_draw := by decide +kernel
set_option maxRecDepth 20000 in
theorem kX2_draw_1 : Cond.fieldLink RX2 53 "StoneRiver$Found" "numbers" "[I" ∈ wsX2_draw := by decide +kernel
set_option maxRecDepth 20000 in
theorem kX2_draw_2 : ∀ w ∈ u_ws RX2 TX2 10, w ∈ wsX2_draw := by decide +kernel
set_option maxRecDepth 20000 in
theorem kX2_draw_3 : Cond.fieldLink RX2 56 "StoneRiver$Fronts" "stride" "I" ∈ wsX2_draw := by decide +kernel
set_option maxRecDepth 20000 in
theorem kX2_draw_4 : Cond.fieldLink RX2 59 "StoneRiver$Fronts" "drawnStride" "I" ∈ wsX2_draw := by decide +kernel
set_option maxRecDepth 20000 in
theorem kX2_draw_5 : Cond.fieldLink RX2 36 "StoneRiver$Found" "signs" "LStoneRiver$Rows;" ∈ wsX2_draw := by decide +kernel
set_option maxRecDepth 20000 in
theorem kX2_draw_6 : Cond.fieldLink RX2 32 "StoneRiver$Fronts" "drawnFor" "LStoneRiver$Rows;" ∈ wsX2_draw := by decide +kernel
set_option maxHeartbeats 4000000 in
set_option maxRecDepth 100000 in
theorem c_X2_draw (l : Launch) (dC : Nat → ClassId) (dI : Nat → Nat → Nat) (cI cZ : ClassId) (te : Nat → Nat) (h_t : Nat) (h_p1 : Nat) (h_p1_surfaces : Nat) (h_p1_cliffs : Nat) (h_p1_boulders : Nat) (h_p1_scratches : Nat) (h_p1_numbers : Nat) (h_p1_facts : Nat) (h_p1_signs : Nat) (h_p1_areas : Nat) (h_p1_heights : Nat) (h_t_wayOn : Nat) (h_t_lowest : Nat) (h_t_highest : Nat) (h_t_seenAt : Nat) (h_t_firstRow : Nat) (h_t_drawnFor : Nat) (h_p1_signs_cells : Nat) (h_t_drawnFor_cells : Nat) (p1_ridges : Int32) (p1_numbers : Nat → Int32) (t_allSeen : Int32) (t_stride : Int32) (t_travel : Int32) (t_drawnStride : Int32) (t_lowest : Nat → Int32) (t_highest : Nat → Int32) (t_seenAt : Nat → Int32) (p1_signs_limit : Int32) (p1_signs_size : Int32) (n_p1_signs_cells : Nat) (p1_signs_cells : Nat → Int32) (t_wayOn : Nat → Int32) (t_firstRow : Nat → Int32) (t_drawnFor_limit : Int32) (t_drawnFor_size : Int32) (n_t_drawnFor_cells : Nat) (t_drawnFor_cells : Nat → Int32) (o0 : Int32) (o1 : Int32) (o2 : Int32) (o3 : Int32) (o4 : Nat → Int32) (o5 : Nat → Int32) (o6 : Nat → Int32) (o7 : Nat → Int32) (o8 : Nat → Int32) (o9 : Int32) (o10 : Nat → Int32) (hf : f_X2_draw p1_numbers t_allSeen t_travel t_drawnStride t_lowest t_highest t_seenAt p1_signs_size n_p1_signs_cells p1_signs_cells t_wayOn t_firstRow t_drawnFor_limit t_drawnFor_size n_t_drawnFor_cells t_drawnFor_cells = some (o0, o1, o2, o3, o4, o5, o6, o7, o8, o9, o10)) : CM l yX2_draw wsX2_draw rmX2_draw (kS te) dC dI cI cZ [.ref h_t, .ref h_p1] [(h_p1, .inr (1, fX1 h_p1_surfaces h_p1_cliffs h_p1_boulders h_p1_scratches h_p1_numbers h_p1_facts h_p1_signs h_p1_areas h_p1_heights p1_ridges)), (h_p1_numbers, .inl (cI, 6, .inl p1_numbers)), (h_t, .inr (2, fX2 h_t_wayOn h_t_lowest h_t_highest h_t_seenAt h_t_firstRow t_allSeen t_stride t_travel h_t_drawnFor t_drawnStride)), (h_t_lowest, .inl (cI, 40, .inl t_lowest)), (h_t_highest, .inl (cI, 40, .inl t_highest)), (h_t_seenAt, .inl (cI, 840, .inl t_seenAt)), (h_p1_signs, .inr (4, fX4 p1_signs_limit h_p1_signs_cells p1_signs_size)), (h_p1_signs_cells, .inl (cI, n_p1_signs_cells, .inl p1_signs_cells)), (h_t_wayOn, .inl (cI, 26880, .inl t_wayOn)), (h_t_firstRow, .inl (cI, 40, .inl t_firstRow)), (h_t_drawnFor, .inr (4, fX4 t_drawnFor_limit h_t_drawnFor_cells t_drawnFor_size)), (h_t_drawnFor_cells, .inl (cI, n_t_drawnFor_cells, .inl t_drawnFor_cells))] [(h_p1, .inr (1, fX1 h_p1_surfaces h_p1_cliffs h_p1_boulders h_p1_scratches h_p1_numbers h_p1_facts h_p1_signs h_p1_areas h_p1_heights p1_ridges)), (h_p1_numbers, .inl (cI, 6, .inl p1_numbers)), (h_t, .inr (2, fX2 h_t_wayOn h_t_lowest h_t_highest h_t_seenAt h_t_firstRow o0 o1 o2 h_t_drawnFor o3)), (h_t_lowest, .inl (cI, 40, .inl o4)), (h_t_highest, .inl (cI, 40, .inl o5)), (h_t_seenAt, .inl (cI, 840, .inl o6)), (h_p1_signs, .inr (4, fX4 p1_signs_limit h_p1_signs_cells p1_signs_size)), (h_p1_signs_cells, .inl (cI, n_p1_signs_cells, .inl p1_signs_cells)), (h_t_wayOn, .inl (cI, 26880, .inl o7)), (h_t_firstRow, .inl (cI, 40, .inl o8)), (h_t_drawnFor, .inr (4, fX4 t_drawnFor_limit h_t_drawnFor_cells o9)), (h_t_drawnFor_cells, .inl (cI, n_t_drawnFor_cells, .inl o10))] none := by
  refine CM_of (cc := cX2_draw) (maxL := 3) (ret := none) (by decide +kernel) rfl (Nat.le_of_ble_eq_true rfl) ?_
  intro p e s m args below meth c A Q hx hb hr hml hown hts hlocks hA hK hP hD hS hE hQ hAe ls hl
  have hown : s.vm.findClass RX2 = some m.cls := hown
  have hl : lv_has ls 3 [(0, .ref h_t), (1, .ref h_p1)] := hl
  unfold f_X2_draw at hf
  refine lv_aload_n hx hb dX2_draw_0 rfl (lv_at hl 0 rfl) ?_
  refine lv_aload_n hx hb dX2_draw_1 rfl (lv_at hl 1 rfl) ?_
  refine va_get (D := (dC, dI)) (ci := 1) (v := .ref h_p1_numbers) (C := RX1) (T := TX1) (N := 10) hx hb hts kX2_draw_0 hown hK hP 0 rfl rfl 4 (by decide) (hts _ kX2_draw_1) (fun _ h9 => h9) rfl dX2_draw_2 ?_
  refine lv_iconst (v := (1 : Int32)) hx hb dX2_draw_5 (by decide) ?_
  obtain ⟨g1, hf⟩ := chk_some hf
  refine va_iald hx hb hK hP 1 0 rfl rfl (gin_in g1) dX2_draw_6 ?_
  obtain ⟨x2, e3, hf⟩ := nm_some hf
  refine lv_tope e3 ?_
  refine va_put (D := (dC, dI)) (ci := 2) (v := .int x2) (ty := tyX2 6) (C := RX2) (T := TX2) (N := 10) hx hb hts kX2_draw_2 tyX2 tyX2_ok nmX2 hown hK hP hD hS 2 rfl rfl 6 (by decide) (hts _ kX2_draw_3) (fun _ h9 => h9) rfl (tyX2_ok 6 (by decide)) rfl rfl (Nat.le_of_ble_eq_true rfl) dX2_draw_7 (fun H locs hP hD hS => ?_)
  have hP : va_P (dC, dI) vwCl [(h_p1, .inr (1, fX1 h_p1_surfaces h_p1_cliffs h_p1_boulders h_p1_scratches h_p1_numbers h_p1_facts h_p1_signs h_p1_areas h_p1_heights p1_ridges)), (h_p1_numbers, .inl (cI, 6, .inl p1_numbers)), (h_t, .inr (2, fX2 h_t_wayOn h_t_lowest h_t_highest h_t_seenAt h_t_firstRow t_allSeen x2 t_travel h_t_drawnFor t_drawnStride)), (h_t_lowest, .inl (cI, 40, .inl t_lowest)), (h_t_highest, .inl (cI, 40, .inl t_highest)), (h_t_seenAt, .inl (cI, 840, .inl t_seenAt)), (h_p1_signs, .inr (4, fX4 p1_signs_limit h_p1_signs_cells p1_signs_size)), (h_p1_signs_cells, .inl (cI, n_p1_signs_cells, .inl p1_signs_cells)), (h_t_wayOn, .inl (cI, 26880, .inl t_wayOn)), (h_t_firstRow, .inl (cI, 40, .inl t_firstRow)), (h_t_drawnFor, .inr (4, fX4 t_drawnFor_limit h_t_drawnFor_cells t_drawnFor_size)), (h_t_drawnFor_cells, .inl (cI, n_t_drawnFor_cells, .inl t_drawnFor_cells))] H := hP
  have hD : va_D A [(h_p1, .inr (1, fX1 h_p1_surfaces h_p1_cliffs h_p1_boulders h_p1_scratches h_p1_numbers h_p1_facts h_p1_signs h_p1_areas h_p1_heights p1_ridges)), (h_p1_numbers, .inl (cI, 6, .inl p1_numbers)), (h_t, .inr (2, fX2 h_t_wayOn h_t_lowest h_t_highest h_t_seenAt h_t_firstRow t_allSeen x2 t_travel h_t_drawnFor t_drawnStride)), (h_t_lowest, .inl (cI, 40, .inl t_lowest)), (h_t_highest, .inl (cI, 40, .inl t_highest)), (h_t_seenAt, .inl (cI, 840, .inl t_seenAt)), (h_p1_signs, .inr (4, fX4 p1_signs_limit h_p1_signs_cells p1_signs_size)), (h_p1_signs_cells, .inl (cI, n_p1_signs_cells, .inl p1_signs_cells)), (h_t_wayOn, .inl (cI, 26880, .inl t_wayOn)), (h_t_firstRow, .inl (cI, 40, .inl t_firstRow)), (h_t_drawnFor, .inr (4, fX4 t_drawnFor_limit h_t_drawnFor_cells t_drawnFor_size)), (h_t_drawnFor_cells, .inl (cI, n_t_drawnFor_cells, .inl t_drawnFor_cells))] := hD
  refine lv_aload_n hx hb dX2_draw_10 rfl (lv_at hl 0 rfl) ?_
  refine va_get (D := (dC, dI)) (ci := 2) (v := .int x2) (C := RX2) (T := TX2) (N := 10) hx hb hts kX2_draw_2 hown hK hP 2 rfl rfl 6 (by decide) (hts _ kX2_draw_3) (fun _ h9 => h9) rfl dX2_draw_11 ?_
  refine lv_aload_n hx hb dX2_draw_14 rfl (lv_at hl 0 rfl) ?_
  refine va_get (D := (dC, dI)) (ci := 2) (v := .int t_drawnStride) (C := RX2) (T := TX2) (N := 10) hx hb hts kX2_draw_2 hown hK hP 2 rfl rfl 9 (by decide) (hts _ kX2_draw_4) (fun _ h9 => h9) rfl dX2_draw_15 ?_
  refine lv_icmp_ne (tgt := 36) hx hb dX2_draw_18 (by decide) (fun c4 => ?_) (fun c4 => ?_)
  · replace hf := ifn c4 hf
    refine lv_aload_n hx hb dX2_draw_36 rfl (lv_at hl 0 rfl) ?_
    refine lv_aload_n hx hb dX2_draw_37 rfl (lv_at hl 1 rfl) ?_
    refine va_get (D := (dC, dI)) (ci := 1) (v := .ref h_p1_signs) (C := RX1) (T := TX1) (N := 10) hx hb hts kX2_draw_0 hown hK hP 0 rfl rfl 6 (by decide) (hts _ kX2_draw_5) (fun _ h9 => h9) rfl dX2_draw_38 ?_
    obtain ⟨x5, y6, y7, y8, hg9, hf⟩ := bd4_some hf
    refine CM_callV (C := RX2) (As := [.ref h_p1_signs]) (rest := []) (wc := [(h_t, .inr (2, fX2 h_t_wayOn h_t_lowest h_t_highest h_t_seenAt h_t_firstRow t_allSeen x2 t_travel h_t_drawnFor t_drawnStride)), (h_t_lowest, .inl (cI, 40, .inl t_lowest)), (h_t_highest, .inl (cI, 40, .inl t_highest)), (h_t_seenAt, .inl (cI, 840, .inl t_seenAt)), (h_p1_signs, .inr (4, fX4 p1_signs_limit h_p1_signs_cells p1_signs_size)), (h_p1_signs_cells, .inl (cI, n_p1_signs_cells, .inl p1_signs_cells))]) (w1 := [(h_t, .inr (2, fX2 h_t_wayOn h_t_lowest h_t_highest h_t_seenAt h_t_firstRow x5 x2 t_travel h_t_drawnFor t_drawnStride)), (h_t_lowest, .inl (cI, 40, .inl y6)), (h_t_highest, .inl (cI, 40, .inl y7)), (h_t_seenAt, .inl (cI, 840, .inl y8)), (h_p1_signs, .inr (4, fX4 p1_signs_limit h_p1_signs_cells p1_signs_size)), (h_p1_signs_cells, .inl (cI, n_p1_signs_cells, .inl p1_signs_cells))]) (wr := [(h_p1, .inr (1, fX1 h_p1_surfaces h_p1_cliffs h_p1_boulders h_p1_scratches h_p1_numbers h_p1_facts h_p1_signs h_p1_areas h_p1_heights p1_ridges)), (h_p1_numbers, .inl (cI, 6, .inl p1_numbers)), (h_t_wayOn, .inl (cI, 26880, .inl t_wayOn)), (h_t_firstRow, .inl (cI, 40, .inl t_firstRow)), (h_t_drawnFor, .inr (4, fX4 t_drawnFor_limit h_t_drawnFor_cells t_drawnFor_size)), (h_t_drawnFor_cells, .inl (cI, n_t_drawnFor_cells, .inl t_drawnFor_cells))]) (wo := [(h_p1, .inr (1, fX1 h_p1_surfaces h_p1_cliffs h_p1_boulders h_p1_scratches h_p1_numbers h_p1_facts h_p1_signs h_p1_areas h_p1_heights p1_ridges)), (h_p1_numbers, .inl (cI, 6, .inl p1_numbers)), (h_t, .inr (2, fX2 h_t_wayOn h_t_lowest h_t_highest h_t_seenAt h_t_firstRow x5 x2 t_travel h_t_drawnFor t_drawnStride)), (h_t_lowest, .inl (cI, 40, .inl y6)), (h_t_highest, .inl (cI, 40, .inl y7)), (h_t_seenAt, .inl (cI, 840, .inl y8)), (h_p1_signs, .inr (4, fX4 p1_signs_limit h_p1_signs_cells p1_signs_size)), (h_p1_signs_cells, .inl (cI, n_p1_signs_cells, .inl p1_signs_cells)), (h_t_wayOn, .inl (cI, 26880, .inl t_wayOn)), (h_t_firstRow, .inl (cI, 40, .inl t_firstRow)), (h_t_drawnFor, .inr (4, fX4 t_drawnFor_limit h_t_drawnFor_cells t_drawnFor_size)), (h_t_drawnFor_cells, .inl (cI, n_t_drawnFor_cells, .inl t_drawnFor_cells))]) (v := (none)) ⟨hx, hb, hml, hown, hts⟩ (c_X2_takeSigns l dC dI cI cZ te h_t h_p1_signs h_t_wayOn h_t_lowest h_t_highest h_t_seenAt h_t_firstRow h_t_drawnFor h_p1_signs_cells t_allSeen x2 t_travel t_drawnStride t_lowest t_highest t_seenAt p1_signs_limit p1_signs_size n_p1_signs_cells p1_signs_cells x5 y6 y7 y8 hg9) (cwV 1 hts gX2_draw_X2_takeSigns rfl rfl rfl (by decide +kernel) ⟨Nat.le_of_ble_eq_true rfl, Nat.le_of_ble_eq_true rfl⟩) (kS_env te) hK hP hD hS hA hE [2, 3, 4, 5, 6, 7] [0, 1, 8, 9, 10, 11] [0, 1, 6, 7, 8, 9, 10, 11, 2, 3, 4, 5] rfl rfl (by decide) (by decide) (by decide) (by decide) rfl 2 2 rfl rfl rfl rfl hl.1 rfl (Nat.le_of_ble_eq_true rfl) dX2_draw_41 ⟨Nat.zero_le _, Nat.zero_le _⟩ (fun H locs hP hD hS => ?_)
    show W p l e rmX2_draw s m args below meth c H locs 0 0 Q (F0 m 44 ls [])
    refine lv_bipush (v := (39 : Int32)) hx hb dX2_draw_44 (by decide) ?_
    refine lv_istore_n (lv' := [(2, .int (39 : Int32)), (0, .ref h_t), (1, .ref h_p1)]) hx hb dX2_draw_46 rfl hl (by decide) rfl (fun ls hl => ?_)
    have L24 : ∀ (fu19 : Nat) (y16 : Nat → Int32) (x17 : Int32) (y15 : Nat → Int32), f_X2_draw_L1 x5 x2 y6 y7 y8 fu19 y16 x17 = some y15 → (∀ (H : Heap) (locs : List Loc), va_P (dC, dI) vwCl [(h_p1, .inr (1, fX1 h_p1_surfaces h_p1_cliffs h_p1_boulders h_p1_scratches h_p1_numbers h_p1_facts h_p1_signs h_p1_areas h_p1_heights p1_ridges)), (h_p1_numbers, .inl (cI, 6, .inl p1_numbers)), (h_t, .inr (2, fX2 h_t_wayOn h_t_lowest h_t_highest h_t_seenAt h_t_firstRow x5 x2 t_travel h_t_drawnFor t_drawnStride)), (h_t_lowest, .inl (cI, 40, .inl y6)), (h_t_highest, .inl (cI, 40, .inl y7)), (h_t_seenAt, .inl (cI, 840, .inl y8)), (h_p1_signs, .inr (4, fX4 p1_signs_limit h_p1_signs_cells p1_signs_size)), (h_p1_signs_cells, .inl (cI, n_p1_signs_cells, .inl p1_signs_cells)), (h_t_wayOn, .inl (cI, 26880, .inl y15)), (h_t_firstRow, .inl (cI, 40, .inl t_firstRow)), (h_t_drawnFor, .inr (4, fX4 t_drawnFor_limit h_t_drawnFor_cells t_drawnFor_size)), (h_t_drawnFor_cells, .inl (cI, n_t_drawnFor_cells, .inl t_drawnFor_cells))] H → va_D A [(h_p1, .inr (1, fX1 h_p1_surfaces h_p1_cliffs h_p1_boulders h_p1_scratches h_p1_numbers h_p1_facts h_p1_signs h_p1_areas h_p1_heights p1_ridges)), (h_p1_numbers, .inl (cI, 6, .inl p1_numbers)), (h_t, .inr (2, fX2 h_t_wayOn h_t_lowest h_t_highest h_t_seenAt h_t_firstRow x5 x2 t_travel h_t_drawnFor t_drawnStride)), (h_t_lowest, .inl (cI, 40, .inl y6)), (h_t_highest, .inl (cI, 40, .inl y7)), (h_t_seenAt, .inl (cI, 840, .inl y8)), (h_p1_signs, .inr (4, fX4 p1_signs_limit h_p1_signs_cells p1_signs_size)), (h_p1_signs_cells, .inl (cI, n_p1_signs_cells, .inl p1_signs_cells)), (h_t_wayOn, .inl (cI, 26880, .inl y15)), (h_t_firstRow, .inl (cI, 40, .inl t_firstRow)), (h_t_drawnFor, .inr (4, fX4 t_drawnFor_limit h_t_drawnFor_cells t_drawnFor_size)), (h_t_drawnFor_cells, .inl (cI, n_t_drawnFor_cells, .inl t_drawnFor_cells))] → va_S A s.heap H locs → ∀ ls : Array Slot, lv_has ls 3 [(0, .ref h_t), (1, .ref h_p1)] → W p l e rmX2_draw s m args below meth c H locs 0 0 Q (F0 m 62 ls [])) → ∀ (H : Heap) (locs : List Loc), va_P (dC, dI) vwCl [(h_p1, .inr (1, fX1 h_p1_surfaces h_p1_cliffs h_p1_boulders h_p1_scratches h_p1_numbers h_p1_facts h_p1_signs h_p1_areas h_p1_heights p1_ridges)), (h_p1_numbers, .inl (cI, 6, .inl p1_numbers)), (h_t, .inr (2, fX2 h_t_wayOn h_t_lowest h_t_highest h_t_seenAt h_t_firstRow x5 x2 t_travel h_t_drawnFor t_drawnStride)), (h_t_lowest, .inl (cI, 40, .inl y6)), (h_t_highest, .inl (cI, 40, .inl y7)), (h_t_seenAt, .inl (cI, 840, .inl y8)), (h_p1_signs, .inr (4, fX4 p1_signs_limit h_p1_signs_cells p1_signs_size)), (h_p1_signs_cells, .inl (cI, n_p1_signs_cells, .inl p1_signs_cells)), (h_t_wayOn, .inl (cI, 26880, .inl y16)), (h_t_firstRow, .inl (cI, 40, .inl t_firstRow)), (h_t_drawnFor, .inr (4, fX4 t_drawnFor_limit h_t_drawnFor_cells t_drawnFor_size)), (h_t_drawnFor_cells, .inl (cI, n_t_drawnFor_cells, .inl t_drawnFor_cells))] H → va_D A [(h_p1, .inr (1, fX1 h_p1_surfaces h_p1_cliffs h_p1_boulders h_p1_scratches h_p1_numbers h_p1_facts h_p1_signs h_p1_areas h_p1_heights p1_ridges)), (h_p1_numbers, .inl (cI, 6, .inl p1_numbers)), (h_t, .inr (2, fX2 h_t_wayOn h_t_lowest h_t_highest h_t_seenAt h_t_firstRow x5 x2 t_travel h_t_drawnFor t_drawnStride)), (h_t_lowest, .inl (cI, 40, .inl y6)), (h_t_highest, .inl (cI, 40, .inl y7)), (h_t_seenAt, .inl (cI, 840, .inl y8)), (h_p1_signs, .inr (4, fX4 p1_signs_limit h_p1_signs_cells p1_signs_size)), (h_p1_signs_cells, .inl (cI, n_p1_signs_cells, .inl p1_signs_cells)), (h_t_wayOn, .inl (cI, 26880, .inl y16)), (h_t_firstRow, .inl (cI, 40, .inl t_firstRow)), (h_t_drawnFor, .inr (4, fX4 t_drawnFor_limit h_t_drawnFor_cells t_drawnFor_size)), (h_t_drawnFor_cells, .inl (cI, n_t_drawnFor_cells, .inl t_drawnFor_cells))] → va_S A s.heap H locs → ∀ ls : Array Slot, lv_has ls 3 [(0, .ref h_t), (1, .ref h_p1), (2, .int x17)] → W p l e rmX2_draw s m args below meth c H locs 0 0 Q (F0 m 47 ls []) := by
      intro fu19
      induction fu19 with
      | zero =>
        intro y16 x17 y15 hf
        unfold f_X2_draw_L1 at hf
        exact none_ne hf
      | succ fu19 ih18 =>
        intro y16 x17 y15 hf hX20 H locs hP hD hS ls hl
        unfold f_X2_draw_L1 at hf
        refine lv_iload_n hx hb dX2_draw_47 rfl (lv_at hl 2 rfl) ?_
        refine lv_if_lt (tgt := 62) hx hb dX2_draw_48 (by decide) (fun c21 => ?_) (fun c21 => ?_)
        · replace hf := ifp c21 hf
          obtain rfl := inj1 hf
          exact hX20 _ _ hP hD hS _ (lv_sub hl [0, 1] rfl)
        · replace hf := ifn c21 hf
          refine lv_aload_n hx hb dX2_draw_51 rfl (lv_at hl 0 rfl) ?_
          refine lv_iload_n hx hb dX2_draw_52 rfl (lv_at hl 2 rfl) ?_
          obtain ⟨y22, hg23, hf⟩ := bd1_some hf
          refine CM_callV (C := RX2) (As := [.int x17]) (rest := []) (wc := [(h_t, .inr (2, fX2 h_t_wayOn h_t_lowest h_t_highest h_t_seenAt h_t_firstRow x5 x2 t_travel h_t_drawnFor t_drawnStride)), (h_t_lowest, .inl (cI, 40, .inl y6)), (h_t_highest, .inl (cI, 40, .inl y7)), (h_t_seenAt, .inl (cI, 840, .inl y8)), (h_t_wayOn, .inl (cI, 26880, .inl y16))]) (w1 := [(h_t, .inr (2, fX2 h_t_wayOn h_t_lowest h_t_highest h_t_seenAt h_t_firstRow x5 x2 t_travel h_t_drawnFor t_drawnStride)), (h_t_lowest, .inl (cI, 40, .inl y6)), (h_t_highest, .inl (cI, 40, .inl y7)), (h_t_seenAt, .inl (cI, 840, .inl y8)), (h_t_wayOn, .inl (cI, 26880, .inl y22))]) (wr := [(h_p1, .inr (1, fX1 h_p1_surfaces h_p1_cliffs h_p1_boulders h_p1_scratches h_p1_numbers h_p1_facts h_p1_signs h_p1_areas h_p1_heights p1_ridges)), (h_p1_numbers, .inl (cI, 6, .inl p1_numbers)), (h_p1_signs, .inr (4, fX4 p1_signs_limit h_p1_signs_cells p1_signs_size)), (h_p1_signs_cells, .inl (cI, n_p1_signs_cells, .inl p1_signs_cells)), (h_t_firstRow, .inl (cI, 40, .inl t_firstRow)), (h_t_drawnFor, .inr (4, fX4 t_drawnFor_limit h_t_drawnFor_cells t_drawnFor_size)), (h_t_drawnFor_cells, .inl (cI, n_t_drawnFor_cells, .inl t_drawnFor_cells))]) (wo := [(h_p1, .inr (1, fX1 h_p1_surfaces h_p1_cliffs h_p1_boulders h_p1_scratches h_p1_numbers h_p1_facts h_p1_signs h_p1_areas h_p1_heights p1_ridges)), (h_p1_numbers, .inl (cI, 6, .inl p1_numbers)), (h_t, .inr (2, fX2 h_t_wayOn h_t_lowest h_t_highest h_t_seenAt h_t_firstRow x5 x2 t_travel h_t_drawnFor t_drawnStride)), (h_t_lowest, .inl (cI, 40, .inl y6)), (h_t_highest, .inl (cI, 40, .inl y7)), (h_t_seenAt, .inl (cI, 840, .inl y8)), (h_p1_signs, .inr (4, fX4 p1_signs_limit h_p1_signs_cells p1_signs_size)), (h_p1_signs_cells, .inl (cI, n_p1_signs_cells, .inl p1_signs_cells)), (h_t_wayOn, .inl (cI, 26880, .inl y22)), (h_t_firstRow, .inl (cI, 40, .inl t_firstRow)), (h_t_drawnFor, .inr (4, fX4 t_drawnFor_limit h_t_drawnFor_cells t_drawnFor_size)), (h_t_drawnFor_cells, .inl (cI, n_t_drawnFor_cells, .inl t_drawnFor_cells))]) (v := (none)) ⟨hx, hb, hml, hown, hts⟩ (c_X2_findWaysFrom l dC dI cI cZ te h_t h_t_wayOn h_t_lowest h_t_highest h_t_seenAt h_t_firstRow h_t_drawnFor x5 x2 t_travel t_drawnStride y6 y7 y8 y16 x17 y22 hg23) (cwV 1 hts gX2_draw_X2_findWaysFrom rfl rfl rfl (by decide +kernel) ⟨Nat.le_of_ble_eq_true rfl, Nat.le_of_ble_eq_true rfl⟩) (kS_env te) hK hP hD hS hA hE [2, 3, 4, 5, 8] [0, 1, 6, 7, 9, 10, 11] [0, 1, 7, 8, 9, 10, 2, 3, 11, 4, 5, 6] rfl rfl (by decide) (by decide) (by decide) (by decide) rfl 2 2 rfl rfl rfl rfl hl.1 rfl (Nat.le_of_ble_eq_true rfl) dX2_draw_53 ⟨Nat.zero_le _, Nat.zero_le _⟩ (fun H locs hP hD hS => ?_)
          show W p l e rmX2_draw s m args below meth c H locs 0 0 Q (F0 m 56 ls [])
          refine lv_iinc (v := (x17 + (-1 : Int32))) (lv' := [(2, .int (x17 + (-1 : Int32))), (0, .ref h_t), (1, .ref h_p1)]) hx hb dX2_draw_56 hl (k := 2) rfl rfl (by decide) rfl (fun ls hl => ?_)
          refine lv_goto (tgt := 47) hx hb dX2_draw_59 (by decide) ?_
          exact ih18 _ _ _ hf hX20 _ _ hP hD hS _ (lv_sub hl [1, 2, 0] rfl)
    obtain ⟨y15, hg, hf⟩ := bd1_some hf
    refine L24 FU _ _ _ hg ?_ _ _ hP hD hS _ (lv_sub hl [1, 2, 0] rfl)
    · intro H locs hP hD hS ls hl
      refine lv_aload_n hx hb dX2_draw_62 rfl (lv_at hl 0 rfl) ?_
      obtain ⟨x25, y26, hg27, hf⟩ := bd2_some hf
      refine CM_callV (C := RX2) (As := []) (rest := []) (wc := [(h_t, .inr (2, fX2 h_t_wayOn h_t_lowest h_t_highest h_t_seenAt h_t_firstRow x5 x2 t_travel h_t_drawnFor t_drawnStride)), (h_t_wayOn, .inl (cI, 26880, .inl y15)), (h_t_firstRow, .inl (cI, 40, .inl t_firstRow)), (h_t_seenAt, .inl (cI, 840, .inl y8))]) (w1 := [(h_t, .inr (2, fX2 h_t_wayOn h_t_lowest h_t_highest h_t_seenAt h_t_firstRow x5 x2 x25 h_t_drawnFor t_drawnStride)), (h_t_wayOn, .inl (cI, 26880, .inl y15)), (h_t_firstRow, .inl (cI, 40, .inl y26)), (h_t_seenAt, .inl (cI, 840, .inl y8))]) (wr := [(h_p1, .inr (1, fX1 h_p1_surfaces h_p1_cliffs h_p1_boulders h_p1_scratches h_p1_numbers h_p1_facts h_p1_signs h_p1_areas h_p1_heights p1_ridges)), (h_p1_numbers, .inl (cI, 6, .inl p1_numbers)), (h_t_lowest, .inl (cI, 40, .inl y6)), (h_t_highest, .inl (cI, 40, .inl y7)), (h_p1_signs, .inr (4, fX4 p1_signs_limit h_p1_signs_cells p1_signs_size)), (h_p1_signs_cells, .inl (cI, n_p1_signs_cells, .inl p1_signs_cells)), (h_t_drawnFor, .inr (4, fX4 t_drawnFor_limit h_t_drawnFor_cells t_drawnFor_size)), (h_t_drawnFor_cells, .inl (cI, n_t_drawnFor_cells, .inl t_drawnFor_cells))]) (wo := [(h_p1, .inr (1, fX1 h_p1_surfaces h_p1_cliffs h_p1_boulders h_p1_scratches h_p1_numbers h_p1_facts h_p1_signs h_p1_areas h_p1_heights p1_ridges)), (h_p1_numbers, .inl (cI, 6, .inl p1_numbers)), (h_t, .inr (2, fX2 h_t_wayOn h_t_lowest h_t_highest h_t_seenAt h_t_firstRow x5 x2 x25 h_t_drawnFor t_drawnStride)), (h_t_lowest, .inl (cI, 40, .inl y6)), (h_t_highest, .inl (cI, 40, .inl y7)), (h_t_seenAt, .inl (cI, 840, .inl y8)), (h_p1_signs, .inr (4, fX4 p1_signs_limit h_p1_signs_cells p1_signs_size)), (h_p1_signs_cells, .inl (cI, n_p1_signs_cells, .inl p1_signs_cells)), (h_t_wayOn, .inl (cI, 26880, .inl y15)), (h_t_firstRow, .inl (cI, 40, .inl y26)), (h_t_drawnFor, .inr (4, fX4 t_drawnFor_limit h_t_drawnFor_cells t_drawnFor_size)), (h_t_drawnFor_cells, .inl (cI, n_t_drawnFor_cells, .inl t_drawnFor_cells))]) (v := (none)) ⟨hx, hb, hml, hown, hts⟩ (c_X2_followFirstRow l dC dI cI cZ te h_t h_t_wayOn h_t_lowest h_t_highest h_t_seenAt h_t_firstRow h_t_drawnFor x5 x2 t_travel t_drawnStride y15 t_firstRow y8 x25 y26 hg27) (cwV 0 hts gX2_draw_X2_followFirstRow rfl rfl rfl (by decide +kernel) ⟨Nat.le_of_ble_eq_true rfl, Nat.le_of_ble_eq_true rfl⟩) (kS_env te) hK hP hD hS hA hE [2, 8, 9, 5] [0, 1, 3, 4, 6, 7, 10, 11] [0, 1, 8, 2, 3, 11, 4, 5, 9, 10, 6, 7] rfl rfl (by decide) (by decide) (by decide) (by decide) rfl 2 2 rfl rfl rfl rfl hl.1 rfl (Nat.le_of_ble_eq_true rfl) dX2_draw_63 ⟨Nat.zero_le _, Nat.zero_le _⟩ (fun H locs hP hD hS => ?_)
      show W p l e rmX2_draw s m args below meth c H locs 0 0 Q (F0 m 66 ls [])
      refine lv_aload_n hx hb dX2_draw_66 rfl (lv_at hl 0 rfl) ?_
      refine va_get (D := (dC, dI)) (ci := 2) (v := .ref h_t_drawnFor) (C := RX2) (T := TX2) (N := 10) hx hb hts kX2_draw_2 hown hK hP 2 rfl rfl 8 (by decide) (hts _ kX2_draw_6) (fun _ h9 => h9) rfl dX2_draw_67 ?_
      refine lv_aload_n hx hb dX2_draw_70 rfl (lv_at hl 1 rfl) ?_
      refine va_get (D := (dC, dI)) (ci := 1) (v := .ref h_p1_signs) (C := RX1) (T := TX1) (N := 10) hx hb hts kX2_draw_0 hown hK hP 0 rfl rfl 6 (by decide) (hts _ kX2_draw_5) (fun _ h9 => h9) rfl dX2_draw_71 ?_
      obtain ⟨x28, y29, hg30, hf⟩ := bd2_some hf
      refine CM_callV (C := RX4) (As := [.ref h_p1_signs]) (rest := []) (wc := [(h_t_drawnFor, .inr (4, fX4 t_drawnFor_limit h_t_drawnFor_cells t_drawnFor_size)), (h_p1_signs, .inr (4, fX4 p1_signs_limit h_p1_signs_cells p1_signs_size)), (h_p1_signs_cells, .inl (cI, n_p1_signs_cells, .inl p1_signs_cells)), (h_t_drawnFor_cells, .inl (cI, n_t_drawnFor_cells, .inl t_drawnFor_cells))]) (w1 := [(h_t_drawnFor, .inr (4, fX4 t_drawnFor_limit h_t_drawnFor_cells x28)), (h_p1_signs, .inr (4, fX4 p1_signs_limit h_p1_signs_cells p1_signs_size)), (h_p1_signs_cells, .inl (cI, n_p1_signs_cells, .inl p1_signs_cells)), (h_t_drawnFor_cells, .inl (cI, n_t_drawnFor_cells, .inl y29))]) (wr := [(h_p1, .inr (1, fX1 h_p1_surfaces h_p1_cliffs h_p1_boulders h_p1_scratches h_p1_numbers h_p1_facts h_p1_signs h_p1_areas h_p1_heights p1_ridges)), (h_p1_numbers, .inl (cI, 6, .inl p1_numbers)), (h_t, .inr (2, fX2 h_t_wayOn h_t_lowest h_t_highest h_t_seenAt h_t_firstRow x5 x2 x25 h_t_drawnFor t_drawnStride)), (h_t_lowest, .inl (cI, 40, .inl y6)), (h_t_highest, .inl (cI, 40, .inl y7)), (h_t_seenAt, .inl (cI, 840, .inl y8)), (h_t_wayOn, .inl (cI, 26880, .inl y15)), (h_t_firstRow, .inl (cI, 40, .inl y26))]) (wo := [(h_p1, .inr (1, fX1 h_p1_surfaces h_p1_cliffs h_p1_boulders h_p1_scratches h_p1_numbers h_p1_facts h_p1_signs h_p1_areas h_p1_heights p1_ridges)), (h_p1_numbers, .inl (cI, 6, .inl p1_numbers)), (h_t, .inr (2, fX2 h_t_wayOn h_t_lowest h_t_highest h_t_seenAt h_t_firstRow x5 x2 x25 h_t_drawnFor t_drawnStride)), (h_t_lowest, .inl (cI, 40, .inl y6)), (h_t_highest, .inl (cI, 40, .inl y7)), (h_t_seenAt, .inl (cI, 840, .inl y8)), (h_p1_signs, .inr (4, fX4 p1_signs_limit h_p1_signs_cells p1_signs_size)), (h_p1_signs_cells, .inl (cI, n_p1_signs_cells, .inl p1_signs_cells)), (h_t_wayOn, .inl (cI, 26880, .inl y15)), (h_t_firstRow, .inl (cI, 40, .inl y26)), (h_t_drawnFor, .inr (4, fX4 t_drawnFor_limit h_t_drawnFor_cells x28)), (h_t_drawnFor_cells, .inl (cI, n_t_drawnFor_cells, .inl y29))]) (v := (none)) ⟨hx, hb, hml, hown, hts⟩ (c_X4_copyFrom l dC dI cI cZ te h_t_drawnFor h_p1_signs h_t_drawnFor_cells h_p1_signs_cells t_drawnFor_limit t_drawnFor_size p1_signs_limit p1_signs_size n_p1_signs_cells p1_signs_cells n_t_drawnFor_cells t_drawnFor_cells x28 y29 hg30) (cwV 1 hts gX2_draw_X4_copyFrom rfl rfl rfl (by decide +kernel) ⟨Nat.le_of_ble_eq_true rfl, Nat.le_of_ble_eq_true rfl⟩) (kS_env te) hK hP hD hS hA hE [10, 6, 7, 11] [0, 1, 2, 3, 4, 5, 8, 9] [0, 1, 2, 3, 4, 5, 9, 10, 6, 7, 8, 11] rfl rfl (by decide) (by decide) (by decide) (by decide) rfl 10 4 rfl rfl rfl rfl hl.1 rfl (Nat.le_of_ble_eq_true rfl) dX2_draw_74 ⟨Nat.zero_le _, Nat.zero_le _⟩ (fun H locs hP hD hS => ?_)
      show W p l e rmX2_draw s m args below meth c H locs 0 0 Q (F0 m 77 ls [])
      refine lv_aload_n hx hb dX2_draw_77 rfl (lv_at hl 0 rfl) ?_
      refine lv_aload_n hx hb dX2_draw_78 rfl (lv_at hl 0 rfl) ?_
      refine va_get (D := (dC, dI)) (ci := 2) (v := .int x2) (C := RX2) (T := TX2) (N := 10) hx hb hts kX2_draw_2 hown hK hP 2 rfl rfl 6 (by decide) (hts _ kX2_draw_3) (fun _ h9 => h9) rfl dX2_draw_79 ?_
      refine va_put (D := (dC, dI)) (ci := 2) (v := .int x2) (ty := tyX2 9) (C := RX2) (T := TX2) (N := 10) hx hb hts kX2_draw_2 tyX2 tyX2_ok nmX2 hown hK hP hD hS 2 rfl rfl 9 (by decide) (hts _ kX2_draw_4) (fun _ h9 => h9) rfl (tyX2_ok 9 (by decide)) rfl rfl (Nat.le_of_ble_eq_true rfl) dX2_draw_82 (fun H locs hP hD hS => ?_)
      have hP : va_P (dC, dI) vwCl [(h_p1, .inr (1, fX1 h_p1_surfaces h_p1_cliffs h_p1_boulders h_p1_scratches h_p1_numbers h_p1_facts h_p1_signs h_p1_areas h_p1_heights p1_ridges)), (h_p1_numbers, .inl (cI, 6, .inl p1_numbers)), (h_t, .inr (2, fX2 h_t_wayOn h_t_lowest h_t_highest h_t_seenAt h_t_firstRow x5 x2 x25 h_t_drawnFor x2)), (h_t_lowest, .inl (cI, 40, .inl y6)), (h_t_highest, .inl (cI, 40, .inl y7)), (h_t_seenAt, .inl (cI, 840, .inl y8)), (h_p1_signs, .inr (4, fX4 p1_signs_limit h_p1_signs_cells p1_signs_size)), (h_p1_signs_cells, .inl (cI, n_p1_signs_cells, .inl p1_signs_cells)), (h_t_wayOn, .inl (cI, 26880, .inl y15)), (h_t_firstRow, .inl (cI, 40, .inl y26)), (h_t_drawnFor, .inr (4, fX4 t_drawnFor_limit h_t_drawnFor_cells x28)), (h_t_drawnFor_cells, .inl (cI, n_t_drawnFor_cells, .inl y29))] H := hP
      have hD : va_D A [(h_p1, .inr (1, fX1 h_p1_surfaces h_p1_cliffs h_p1_boulders h_p1_scratches h_p1_numbers h_p1_facts h_p1_signs h_p1_areas h_p1_heights p1_ridges)), (h_p1_numbers, .inl (cI, 6, .inl p1_numbers)), (h_t, .inr (2, fX2 h_t_wayOn h_t_lowest h_t_highest h_t_seenAt h_t_firstRow x5 x2 x25 h_t_drawnFor x2)), (h_t_lowest, .inl (cI, 40, .inl y6)), (h_t_highest, .inl (cI, 40, .inl y7)), (h_t_seenAt, .inl (cI, 840, .inl y8)), (h_p1_signs, .inr (4, fX4 p1_signs_limit h_p1_signs_cells p1_signs_size)), (h_p1_signs_cells, .inl (cI, n_p1_signs_cells, .inl p1_signs_cells)), (h_t_wayOn, .inl (cI, 26880, .inl y15)), (h_t_firstRow, .inl (cI, 40, .inl y26)), (h_t_drawnFor, .inr (4, fX4 t_drawnFor_limit h_t_drawnFor_cells x28)), (h_t_drawnFor_cells, .inl (cI, n_t_drawnFor_cells, .inl y29))] := hD
      obtain ⟨rfl, rfl, rfl, rfl, rfl, rfl, rfl, rfl, rfl, rfl, rfl⟩ := inj11 hf
      subst hQ
      exact CM_vret hx hb hr hlocks hAe hP hD hS dX2_draw_85
  · replace hf := ifp c4 hf
    refine lv_aload_n hx hb dX2_draw_21 rfl (lv_at hl 0 rfl) ?_
    refine va_get (D := (dC, dI)) (ci := 2) (v := .ref h_t_drawnFor) (C := RX2) (T := TX2) (N := 10) hx hb hts kX2_draw_2 hown hK hP 2 rfl rfl 8 (by decide) (hts _ kX2_draw_6) (fun _ h9 => h9) rfl dX2_draw_22 ?_
    refine lv_aload_n hx hb dX2_draw_25 rfl (lv_at hl 1 rfl) ?_
    refine va_get (D := (dC, dI)) (ci := 1) (v := .ref h_p1_signs) (C := RX1) (T := TX1) (N := 10) hx hb hts kX2_draw_0 hown hK hP 0 rfl rfl 6 (by decide) (hts _ kX2_draw_5) (fun _ h9 => h9) rfl dX2_draw_26 ?_
    obtain ⟨r31, hg32, hf⟩ := bd1_some hf
    refine CM_callV (C := RX4) (As := [.ref h_p1_signs]) (rest := []) (wc := [(h_t_drawnFor, .inr (4, fX4 t_drawnFor_limit h_t_drawnFor_cells t_drawnFor_size)), (h_p1_signs, .inr (4, fX4 p1_signs_limit h_p1_signs_cells p1_signs_size)), (h_t_drawnFor_cells, .inl (cI, n_t_drawnFor_cells, .inl t_drawnFor_cells)), (h_p1_signs_cells, .inl (cI, n_p1_signs_cells, .inl p1_signs_cells))]) (w1 := [(h_t_drawnFor, .inr (4, fX4 t_drawnFor_limit h_t_drawnFor_cells t_drawnFor_size)), (h_p1_signs, .inr (4, fX4 p1_signs_limit h_p1_signs_cells p1_signs_size)), (h_t_drawnFor_cells, .inl (cI, n_t_drawnFor_cells, .inl t_drawnFor_cells)), (h_p1_signs_cells, .inl (cI, n_p1_signs_cells, .inl p1_signs_cells))]) (wr := [(h_p1, .inr (1, fX1 h_p1_surfaces h_p1_cliffs h_p1_boulders h_p1_scratches h_p1_numbers h_p1_facts h_p1_signs h_p1_areas h_p1_heights p1_ridges)), (h_p1_numbers, .inl (cI, 6, .inl p1_numbers)), (h_t, .inr (2, fX2 h_t_wayOn h_t_lowest h_t_highest h_t_seenAt h_t_firstRow t_allSeen x2 t_travel h_t_drawnFor t_drawnStride)), (h_t_lowest, .inl (cI, 40, .inl t_lowest)), (h_t_highest, .inl (cI, 40, .inl t_highest)), (h_t_seenAt, .inl (cI, 840, .inl t_seenAt)), (h_t_wayOn, .inl (cI, 26880, .inl t_wayOn)), (h_t_firstRow, .inl (cI, 40, .inl t_firstRow))]) (wo := [(h_p1, .inr (1, fX1 h_p1_surfaces h_p1_cliffs h_p1_boulders h_p1_scratches h_p1_numbers h_p1_facts h_p1_signs h_p1_areas h_p1_heights p1_ridges)), (h_p1_numbers, .inl (cI, 6, .inl p1_numbers)), (h_t, .inr (2, fX2 h_t_wayOn h_t_lowest h_t_highest h_t_seenAt h_t_firstRow t_allSeen x2 t_travel h_t_drawnFor t_drawnStride)), (h_t_lowest, .inl (cI, 40, .inl t_lowest)), (h_t_highest, .inl (cI, 40, .inl t_highest)), (h_t_seenAt, .inl (cI, 840, .inl t_seenAt)), (h_p1_signs, .inr (4, fX4 p1_signs_limit h_p1_signs_cells p1_signs_size)), (h_p1_signs_cells, .inl (cI, n_p1_signs_cells, .inl p1_signs_cells)), (h_t_wayOn, .inl (cI, 26880, .inl t_wayOn)), (h_t_firstRow, .inl (cI, 40, .inl t_firstRow)), (h_t_drawnFor, .inr (4, fX4 t_drawnFor_limit h_t_drawnFor_cells t_drawnFor_size)), (h_t_drawnFor_cells, .inl (cI, n_t_drawnFor_cells, .inl t_drawnFor_cells))]) (v := (some (.int r31))) ⟨hx, hb, hml, hown, hts⟩ (c_X4_isLike l dC dI cI cZ te h_t_drawnFor h_p1_signs h_t_drawnFor_cells h_p1_signs_cells t_drawnFor_limit t_drawnFor_size p1_signs_limit p1_signs_size n_t_drawnFor_cells t_drawnFor_cells n_p1_signs_cells p1_signs_cells r31 hg32) (cwV 1 hts gX2_draw_X4_isLike rfl rfl rfl (by decide +kernel) ⟨Nat.le_of_ble_eq_true rfl, Nat.le_of_ble_eq_true rfl⟩) (kS_env te) hK hP hD hS hA hE [10, 6, 11, 7] [0, 1, 2, 3, 4, 5, 8, 9] [0, 1, 2, 3, 4, 5, 9, 11, 6, 7, 8, 10] rfl rfl (by decide) (by decide) (by decide) (by decide) rfl 10 4 rfl rfl rfl rfl hl.1 rfl (Nat.le_of_ble_eq_true rfl) dX2_draw_29 ⟨Nat.zero_le _, Nat.zero_le _⟩ (fun H locs hP hD hS => ?_)
    show W p l e rmX2_draw s m args below meth c H locs 0 0 Q (F0 m 32 ls [.int r31])
    refine lv_if_eq (tgt := 36) hx hb dX2_draw_32 (by decide) (fun c33 => ?_) (fun c33 => ?_)
    · replace hf := ifp c33 hf
      refine lv_aload_n hx hb dX2_draw_36 rfl (lv_at hl 0 rfl) ?_
      refine lv_aload_n hx hb dX2_draw_37 rfl (lv_at hl 1 rfl) ?_
      refine va_get (D := (dC, dI)) (ci := 1) (v := .ref h_p1_signs) (C := RX1) (T := TX1) (N := 10) hx hb hts kX2_draw_0 hown hK hP 0 rfl rfl 6 (by decide) (hts _ kX2_draw_5) (fun _ h9 => h9) rfl dX2_draw_38 ?_
      obtain ⟨x34, y35, y36, y37, hg38, hf⟩ := bd4_some hf
      refine CM_callV (C := RX2) (As := [.ref h_p1_signs]) (rest := []) (wc := [(h_t, .inr (2, fX2 h_t_wayOn h_t_lowest h_t_highest h_t_seenAt h_t_firstRow t_allSeen x2 t_travel h_t_drawnFor t_drawnStride)), (h_t_lowest, .inl (cI, 40, .inl t_lowest)), (h_t_highest, .inl (cI, 40, .inl t_highest)), (h_t_seenAt, .inl (cI, 840, .inl t_seenAt)), (h_p1_signs, .inr (4, fX4 p1_signs_limit h_p1_signs_cells p1_signs_size)), (h_p1_signs_cells, .inl (cI, n_p1_signs_cells, .inl p1_signs_cells))]) (w1 := [(h_t, .inr (2, fX2 h_t_wayOn h_t_lowest h_t_highest h_t_seenAt h_t_firstRow x34 x2 t_travel h_t_drawnFor t_drawnStride)), (h_t_lowest, .inl (cI, 40, .inl y35)), (h_t_highest, .inl (cI, 40, .inl y36)), (h_t_seenAt, .inl (cI, 840, .inl y37)), (h_p1_signs, .inr (4, fX4 p1_signs_limit h_p1_signs_cells p1_signs_size)), (h_p1_signs_cells, .inl (cI, n_p1_signs_cells, .inl p1_signs_cells))]) (wr := [(h_p1, .inr (1, fX1 h_p1_surfaces h_p1_cliffs h_p1_boulders h_p1_scratches h_p1_numbers h_p1_facts h_p1_signs h_p1_areas h_p1_heights p1_ridges)), (h_p1_numbers, .inl (cI, 6, .inl p1_numbers)), (h_t_wayOn, .inl (cI, 26880, .inl t_wayOn)), (h_t_firstRow, .inl (cI, 40, .inl t_firstRow)), (h_t_drawnFor, .inr (4, fX4 t_drawnFor_limit h_t_drawnFor_cells t_drawnFor_size)), (h_t_drawnFor_cells, .inl (cI, n_t_drawnFor_cells, .inl t_drawnFor_cells))]) (wo := [(h_p1, .inr (1, fX1 h_p1_surfaces h_p1_cliffs h_p1_boulders h_p1_scratches h_p1_numbers h_p1_facts h_p1_signs h_p1_areas h_p1_heights p1_ridges)), (h_p1_numbers, .inl (cI, 6, .inl p1_numbers)), (h_t, .inr (2, fX2 h_t_wayOn h_t_lowest h_t_highest h_t_seenAt h_t_firstRow x34 x2 t_travel h_t_drawnFor t_drawnStride)), (h_t_lowest, .inl (cI, 40, .inl y35)), (h_t_highest, .inl (cI, 40, .inl y36)), (h_t_seenAt, .inl (cI, 840, .inl y37)), (h_p1_signs, .inr (4, fX4 p1_signs_limit h_p1_signs_cells p1_signs_size)), (h_p1_signs_cells, .inl (cI, n_p1_signs_cells, .inl p1_signs_cells)), (h_t_wayOn, .inl (cI, 26880, .inl t_wayOn)), (h_t_firstRow, .inl (cI, 40, .inl t_firstRow)), (h_t_drawnFor, .inr (4, fX4 t_drawnFor_limit h_t_drawnFor_cells t_drawnFor_size)), (h_t_drawnFor_cells, .inl (cI, n_t_drawnFor_cells, .inl t_drawnFor_cells))]) (v := (none)) ⟨hx, hb, hml, hown, hts⟩ (c_X2_takeSigns l dC dI cI cZ te h_t h_p1_signs h_t_wayOn h_t_lowest h_t_highest h_t_seenAt h_t_firstRow h_t_drawnFor h_p1_signs_cells t_allSeen x2 t_travel t_drawnStride t_lowest t_highest t_seenAt p1_signs_limit p1_signs_size n_p1_signs_cells p1_signs_cells x34 y35 y36 y37 hg38) (cwV 1 hts gX2_draw_X2_takeSigns rfl rfl rfl (by decide +kernel) ⟨Nat.le_of_ble_eq_true rfl, Nat.le_of_ble_eq_true rfl⟩) (kS_env te) hK hP hD hS hA hE [2, 3, 4, 5, 6, 7] [0, 1, 8, 9, 10, 11] [0, 1, 6, 7, 8, 9, 10, 11, 2, 3, 4, 5] rfl rfl (by decide) (by decide) (by decide) (by decide) rfl 2 2 rfl rfl rfl rfl hl.1 rfl (Nat.le_of_ble_eq_true rfl) dX2_draw_41 ⟨Nat.zero_le _, Nat.zero_le _⟩ (fun H locs hP hD hS => ?_)
      show W p l e rmX2_draw s m args below meth c H locs 0 0 Q (F0 m 44 ls [])
      refine lv_bipush (v := (39 : Int32)) hx hb dX2_draw_44 (by decide) ?_
      refine lv_istore_n (lv' := [(2, .int (39 : Int32)), (0, .ref h_t), (1, .ref h_p1)]) hx hb dX2_draw_46 rfl hl (by decide) rfl (fun ls hl => ?_)
      have L53 : ∀ (fu48 : Nat) (y45 : Nat → Int32) (x46 : Int32) (y44 : Nat → Int32), f_X2_draw_L2 x34 x2 y35 y36 y37 fu48 y45 x46 = some y44 → (∀ (H : Heap) (locs : List Loc), va_P (dC, dI) vwCl [(h_p1, .inr (1, fX1 h_p1_surfaces h_p1_cliffs h_p1_boulders h_p1_scratches h_p1_numbers h_p1_facts h_p1_signs h_p1_areas h_p1_heights p1_ridges)), (h_p1_numbers, .inl (cI, 6, .inl p1_numbers)), (h_t, .inr (2, fX2 h_t_wayOn h_t_lowest h_t_highest h_t_seenAt h_t_firstRow x34 x2 t_travel h_t_drawnFor t_drawnStride)), (h_t_lowest, .inl (cI, 40, .inl y35)), (h_t_highest, .inl (cI, 40, .inl y36)), (h_t_seenAt, .inl (cI, 840, .inl y37)), (h_p1_signs, .inr (4, fX4 p1_signs_limit h_p1_signs_cells p1_signs_size)), (h_p1_signs_cells, .inl (cI, n_p1_signs_cells, .inl p1_signs_cells)), (h_t_wayOn, .inl (cI, 26880, .inl y44)), (h_t_firstRow, .inl (cI, 40, .inl t_firstRow)), (h_t_drawnFor, .inr (4, fX4 t_drawnFor_limit h_t_drawnFor_cells t_drawnFor_size)), (h_t_drawnFor_cells, .inl (cI, n_t_drawnFor_cells, .inl t_drawnFor_cells))] H → va_D A [(h_p1, .inr (1, fX1 h_p1_surfaces h_p1_cliffs h_p1_boulders h_p1_scratches h_p1_numbers h_p1_facts h_p1_signs h_p1_areas h_p1_heights p1_ridges)), (h_p1_numbers, .inl (cI, 6, .inl p1_numbers)), (h_t, .inr (2, fX2 h_t_wayOn h_t_lowest h_t_highest h_t_seenAt h_t_firstRow x34 x2 t_travel h_t_drawnFor t_drawnStride)), (h_t_lowest, .inl (cI, 40, .inl y35)), (h_t_highest, .inl (cI, 40, .inl y36)), (h_t_seenAt, .inl (cI, 840, .inl y37)), (h_p1_signs, .inr (4, fX4 p1_signs_limit h_p1_signs_cells p1_signs_size)), (h_p1_signs_cells, .inl (cI, n_p1_signs_cells, .inl p1_signs_cells)), (h_t_wayOn, .inl (cI, 26880, .inl y44)), (h_t_firstRow, .inl (cI, 40, .inl t_firstRow)), (h_t_drawnFor, .inr (4, fX4 t_drawnFor_limit h_t_drawnFor_cells t_drawnFor_size)), (h_t_drawnFor_cells, .inl (cI, n_t_drawnFor_cells, .inl t_drawnFor_cells))] → va_S A s.heap H locs → ∀ ls : Array Slot, lv_has ls 3 [(0, .ref h_t), (1, .ref h_p1)] → W p l e rmX2_draw s m args below meth c H locs 0 0 Q (F0 m 62 ls [])) → ∀ (H : Heap) (locs : List Loc), va_P (dC, dI) vwCl [(h_p1, .inr (1, fX1 h_p1_surfaces h_p1_cliffs h_p1_boulders h_p1_scratches h_p1_numbers h_p1_facts h_p1_signs h_p1_areas h_p1_heights p1_ridges)), (h_p1_numbers, .inl (cI, 6, .inl p1_numbers)), (h_t, .inr (2, fX2 h_t_wayOn h_t_lowest h_t_highest h_t_seenAt h_t_firstRow x34 x2 t_travel h_t_drawnFor t_drawnStride)), (h_t_lowest, .inl (cI, 40, .inl y35)), (h_t_highest, .inl (cI, 40, .inl y36)), (h_t_seenAt, .inl (cI, 840, .inl y37)), (h_p1_signs, .inr (4, fX4 p1_signs_limit h_p1_signs_cells p1_signs_size)), (h_p1_signs_cells, .inl (cI, n_p1_signs_cells, .inl p1_signs_cells)), (h_t_wayOn, .inl (cI, 26880, .inl y45)), (h_t_firstRow, .inl (cI, 40, .inl t_firstRow)), (h_t_drawnFor, .inr (4, fX4 t_drawnFor_limit h_t_drawnFor_cells t_drawnFor_size)), (h_t_drawnFor_cells, .inl (cI, n_t_drawnFor_cells, .inl t_drawnFor_cells))] H → va_D A [(h_p1, .inr (1, fX1 h_p1_surfaces h_p1_cliffs h_p1_boulders h_p1_scratches h_p1_numbers h_p1_facts h_p1_signs h_p1_areas h_p1_heights p1_ridges)), (h_p1_numbers, .inl (cI, 6, .inl p1_numbers)), (h_t, .inr (2, fX2 h_t_wayOn h_t_lowest h_t_highest h_t_seenAt h_t_firstRow x34 x2 t_travel h_t_drawnFor t_drawnStride)), (h_t_lowest, .inl (cI, 40, .inl y35)), (h_t_highest, .inl (cI, 40, .inl y36)), (h_t_seenAt, .inl (cI, 840, .inl y37)), (h_p1_signs, .inr (4, fX4 p1_signs_limit h_p1_signs_cells p1_signs_size)), (h_p1_signs_cells, .inl (cI, n_p1_signs_cells, .inl p1_signs_cells)), (h_t_wayOn, .inl (cI, 26880, .inl y45)), (h_t_firstRow, .inl (cI, 40, .inl t_firstRow)), (h_t_drawnFor, .inr (4, fX4 t_drawnFor_limit h_t_drawnFor_cells t_drawnFor_size)), (h_t_drawnFor_cells, .inl (cI, n_t_drawnFor_cells, .inl t_drawnFor_cells))] → va_S A s.heap H locs → ∀ ls : Array Slot, lv_has ls 3 [(0, .ref h_t), (1, .ref h_p1), (2, .int x46)] → W p l e rmX2_draw s m args below meth c H locs 0 0 Q (F0 m 47 ls []) := by
        intro fu48
        induction fu48 with
        | zero =>
          intro y45 x46 y44 hf
          unfold f_X2_draw_L2 at hf
          exact none_ne hf
        | succ fu48 ih47 =>
          intro y45 x46 y44 hf hX49 H locs hP hD hS ls hl
          unfold f_X2_draw_L2 at hf
          refine lv_iload_n hx hb dX2_draw_47 rfl (lv_at hl 2 rfl) ?_
          refine lv_if_lt (tgt := 62) hx hb dX2_draw_48 (by decide) (fun c50 => ?_) (fun c50 => ?_)
          · replace hf := ifp c50 hf
            obtain rfl := inj1 hf
            exact hX49 _ _ hP hD hS _ (lv_sub hl [0, 1] rfl)
          · replace hf := ifn c50 hf
            refine lv_aload_n hx hb dX2_draw_51 rfl (lv_at hl 0 rfl) ?_
            refine lv_iload_n hx hb dX2_draw_52 rfl (lv_at hl 2 rfl) ?_
            obtain ⟨y51, hg52, hf⟩ := bd1_some hf
            refine CM_callV (C := RX2) (As := [.int x46]) (rest := []) (wc := [(h_t, .inr (2, fX2 h_t_wayOn h_t_lowest h_t_highest h_t_seenAt h_t_firstRow x34 x2 t_travel h_t_drawnFor t_drawnStride)), (h_t_lowest, .inl (cI, 40, .inl y35)), (h_t_highest, .inl (cI, 40, .inl y36)), (h_t_seenAt, .inl (cI, 840, .inl y37)), (h_t_wayOn, .inl (cI, 26880, .inl y45))]) (w1 := [(h_t, .inr (2, fX2 h_t_wayOn h_t_lowest h_t_highest h_t_seenAt h_t_firstRow x34 x2 t_travel h_t_drawnFor t_drawnStride)), (h_t_lowest, .inl (cI, 40, .inl y35)), (h_t_highest, .inl (cI, 40, .inl y36)), (h_t_seenAt, .inl (cI, 840, .inl y37)), (h_t_wayOn, .inl (cI, 26880, .inl y51))]) (wr := [(h_p1, .inr (1, fX1 h_p1_surfaces h_p1_cliffs h_p1_boulders h_p1_scratches h_p1_numbers h_p1_facts h_p1_signs h_p1_areas h_p1_heights p1_ridges)), (h_p1_numbers, .inl (cI, 6, .inl p1_numbers)), (h_p1_signs, .inr (4, fX4 p1_signs_limit h_p1_signs_cells p1_signs_size)), (h_p1_signs_cells, .inl (cI, n_p1_signs_cells, .inl p1_signs_cells)), (h_t_firstRow, .inl (cI, 40, .inl t_firstRow)), (h_t_drawnFor, .inr (4, fX4 t_drawnFor_limit h_t_drawnFor_cells t_drawnFor_size)), (h_t_drawnFor_cells, .inl (cI, n_t_drawnFor_cells, .inl t_drawnFor_cells))]) (wo := [(h_p1, .inr (1, fX1 h_p1_surfaces h_p1_cliffs h_p1_boulders h_p1_scratches h_p1_numbers h_p1_facts h_p1_signs h_p1_areas h_p1_heights p1_ridges)), (h_p1_numbers, .inl (cI, 6, .inl p1_numbers)), (h_t, .inr (2, fX2 h_t_wayOn h_t_lowest h_t_highest h_t_seenAt h_t_firstRow x34 x2 t_travel h_t_drawnFor t_drawnStride)), (h_t_lowest, .inl (cI, 40, .inl y35)), (h_t_highest, .inl (cI, 40, .inl y36)), (h_t_seenAt, .inl (cI, 840, .inl y37)), (h_p1_signs, .inr (4, fX4 p1_signs_limit h_p1_signs_cells p1_signs_size)), (h_p1_signs_cells, .inl (cI, n_p1_signs_cells, .inl p1_signs_cells)), (h_t_wayOn, .inl (cI, 26880, .inl y51)), (h_t_firstRow, .inl (cI, 40, .inl t_firstRow)), (h_t_drawnFor, .inr (4, fX4 t_drawnFor_limit h_t_drawnFor_cells t_drawnFor_size)), (h_t_drawnFor_cells, .inl (cI, n_t_drawnFor_cells, .inl t_drawnFor_cells))]) (v := (none)) ⟨hx, hb, hml, hown, hts⟩ (c_X2_findWaysFrom l dC dI cI cZ te h_t h_t_wayOn h_t_lowest h_t_highest h_t_seenAt h_t_firstRow h_t_drawnFor x34 x2 t_travel t_drawnStride y35 y36 y37 y45 x46 y51 hg52) (cwV 1 hts gX2_draw_X2_findWaysFrom rfl rfl rfl (by decide +kernel) ⟨Nat.le_of_ble_eq_true rfl, Nat.le_of_ble_eq_true rfl⟩) (kS_env te) hK hP hD hS hA hE [2, 3, 4, 5, 8] [0, 1, 6, 7, 9, 10, 11] [0, 1, 7, 8, 9, 10, 2, 3, 11, 4, 5, 6] rfl rfl (by decide) (by decide) (by decide) (by decide) rfl 2 2 rfl rfl rfl rfl hl.1 rfl (Nat.le_of_ble_eq_true rfl) dX2_draw_53 ⟨Nat.zero_le _, Nat.zero_le _⟩ (fun H locs hP hD hS => ?_)
            show W p l e rmX2_draw s m args below meth c H locs 0 0 Q (F0 m 56 ls [])
            refine lv_iinc (v := (x46 + (-1 : Int32))) (lv' := [(2, .int (x46 + (-1 : Int32))), (0, .ref h_t), (1, .ref h_p1)]) hx hb dX2_draw_56 hl (k := 2) rfl rfl (by decide) rfl (fun ls hl => ?_)
            refine lv_goto (tgt := 47) hx hb dX2_draw_59 (by decide) ?_
            exact ih47 _ _ _ hf hX49 _ _ hP hD hS _ (lv_sub hl [1, 2, 0] rfl)
      obtain ⟨y44, hg, hf⟩ := bd1_some hf
      refine L53 FU _ _ _ hg ?_ _ _ hP hD hS _ (lv_sub hl [1, 2, 0] rfl)
      · intro H locs hP hD hS ls hl
        refine lv_aload_n hx hb dX2_draw_62 rfl (lv_at hl 0 rfl) ?_
        obtain ⟨x54, y55, hg56, hf⟩ := bd2_some hf
        refine CM_callV (C := RX2) (As := []) (rest := []) (wc := [(h_t, .inr (2, fX2 h_t_wayOn h_t_lowest h_t_highest h_t_seenAt h_t_firstRow x34 x2 t_travel h_t_drawnFor t_drawnStride)), (h_t_wayOn, .inl (cI, 26880, .inl y44)), (h_t_firstRow, .inl (cI, 40, .inl t_firstRow)), (h_t_seenAt, .inl (cI, 840, .inl y37))]) (w1 := [(h_t, .inr (2, fX2 h_t_wayOn h_t_lowest h_t_highest h_t_seenAt h_t_firstRow x34 x2 x54 h_t_drawnFor t_drawnStride)), (h_t_wayOn, .inl (cI, 26880, .inl y44)), (h_t_firstRow, .inl (cI, 40, .inl y55)), (h_t_seenAt, .inl (cI, 840, .inl y37))]) (wr := [(h_p1, .inr (1, fX1 h_p1_surfaces h_p1_cliffs h_p1_boulders h_p1_scratches h_p1_numbers h_p1_facts h_p1_signs h_p1_areas h_p1_heights p1_ridges)), (h_p1_numbers, .inl (cI, 6, .inl p1_numbers)), (h_t_lowest, .inl (cI, 40, .inl y35)), (h_t_highest, .inl (cI, 40, .inl y36)), (h_p1_signs, .inr (4, fX4 p1_signs_limit h_p1_signs_cells p1_signs_size)), (h_p1_signs_cells, .inl (cI, n_p1_signs_cells, .inl p1_signs_cells)), (h_t_drawnFor, .inr (4, fX4 t_drawnFor_limit h_t_drawnFor_cells t_drawnFor_size)), (h_t_drawnFor_cells, .inl (cI, n_t_drawnFor_cells, .inl t_drawnFor_cells))]) (wo := [(h_p1, .inr (1, fX1 h_p1_surfaces h_p1_cliffs h_p1_boulders h_p1_scratches h_p1_numbers h_p1_facts h_p1_signs h_p1_areas h_p1_heights p1_ridges)), (h_p1_numbers, .inl (cI, 6, .inl p1_numbers)), (h_t, .inr (2, fX2 h_t_wayOn h_t_lowest h_t_highest h_t_seenAt h_t_firstRow x34 x2 x54 h_t_drawnFor t_drawnStride)), (h_t_lowest, .inl (cI, 40, .inl y35)), (h_t_highest, .inl (cI, 40, .inl y36)), (h_t_seenAt, .inl (cI, 840, .inl y37)), (h_p1_signs, .inr (4, fX4 p1_signs_limit h_p1_signs_cells p1_signs_size)), (h_p1_signs_cells, .inl (cI, n_p1_signs_cells, .inl p1_signs_cells)), (h_t_wayOn, .inl (cI, 26880, .inl y44)), (h_t_firstRow, .inl (cI, 40, .inl y55)), (h_t_drawnFor, .inr (4, fX4 t_drawnFor_limit h_t_drawnFor_cells t_drawnFor_size)), (h_t_drawnFor_cells, .inl (cI, n_t_drawnFor_cells, .inl t_drawnFor_cells))]) (v := (none)) ⟨hx, hb, hml, hown, hts⟩ (c_X2_followFirstRow l dC dI cI cZ te h_t h_t_wayOn h_t_lowest h_t_highest h_t_seenAt h_t_firstRow h_t_drawnFor x34 x2 t_travel t_drawnStride y44 t_firstRow y37 x54 y55 hg56) (cwV 0 hts gX2_draw_X2_followFirstRow rfl rfl rfl (by decide +kernel) ⟨Nat.le_of_ble_eq_true rfl, Nat.le_of_ble_eq_true rfl⟩) (kS_env te) hK hP hD hS hA hE [2, 8, 9, 5] [0, 1, 3, 4, 6, 7, 10, 11] [0, 1, 8, 2, 3, 11, 4, 5, 9, 10, 6, 7] rfl rfl (by decide) (by decide) (by decide) (by decide) rfl 2 2 rfl rfl rfl rfl hl.1 rfl (Nat.le_of_ble_eq_true rfl) dX2_draw_63 ⟨Nat.zero_le _, Nat.zero_le _⟩ (fun H locs hP hD hS => ?_)
        show W p l e rmX2_draw s m args below meth c H locs 0 0 Q (F0 m 66 ls [])
        refine lv_aload_n hx hb dX2_draw_66 rfl (lv_at hl 0 rfl) ?_
        refine va_get (D := (dC, dI)) (ci := 2) (v := .ref h_t_drawnFor) (C := RX2) (T := TX2) (N := 10) hx hb hts kX2_draw_2 hown hK hP 2 rfl rfl 8 (by decide) (hts _ kX2_draw_6) (fun _ h9 => h9) rfl dX2_draw_67 ?_
        refine lv_aload_n hx hb dX2_draw_70 rfl (lv_at hl 1 rfl) ?_
        refine va_get (D := (dC, dI)) (ci := 1) (v := .ref h_p1_signs) (C := RX1) (T := TX1) (N := 10) hx hb hts kX2_draw_0 hown hK hP 0 rfl rfl 6 (by decide) (hts _ kX2_draw_5) (fun _ h9 => h9) rfl dX2_draw_71 ?_
        obtain ⟨x57, y58, hg59, hf⟩ := bd2_some hf
        refine CM_callV (C := RX4) (As := [.ref h_p1_signs]) (rest := []) (wc := [(h_t_drawnFor, .inr (4, fX4 t_drawnFor_limit h_t_drawnFor_cells t_drawnFor_size)), (h_p1_signs, .inr (4, fX4 p1_signs_limit h_p1_signs_cells p1_signs_size)), (h_p1_signs_cells, .inl (cI, n_p1_signs_cells, .inl p1_signs_cells)), (h_t_drawnFor_cells, .inl (cI, n_t_drawnFor_cells, .inl t_drawnFor_cells))]) (w1 := [(h_t_drawnFor, .inr (4, fX4 t_drawnFor_limit h_t_drawnFor_cells x57)), (h_p1_signs, .inr (4, fX4 p1_signs_limit h_p1_signs_cells p1_signs_size)), (h_p1_signs_cells, .inl (cI, n_p1_signs_cells, .inl p1_signs_cells)), (h_t_drawnFor_cells, .inl (cI, n_t_drawnFor_cells, .inl y58))]) (wr := [(h_p1, .inr (1, fX1 h_p1_surfaces h_p1_cliffs h_p1_boulders h_p1_scratches h_p1_numbers h_p1_facts h_p1_signs h_p1_areas h_p1_heights p1_ridges)), (h_p1_numbers, .inl (cI, 6, .inl p1_numbers)), (h_t, .inr (2, fX2 h_t_wayOn h_t_lowest h_t_highest h_t_seenAt h_t_firstRow x34 x2 x54 h_t_drawnFor t_drawnStride)), (h_t_lowest, .inl (cI, 40, .inl y35)), (h_t_highest, .inl (cI, 40, .inl y36)), (h_t_seenAt, .inl (cI, 840, .inl y37)), (h_t_wayOn, .inl (cI, 26880, .inl y44)), (h_t_firstRow, .inl (cI, 40, .inl y55))]) (wo := [(h_p1, .inr (1, fX1 h_p1_surfaces h_p1_cliffs h_p1_boulders h_p1_scratches h_p1_numbers h_p1_facts h_p1_signs h_p1_areas h_p1_heights p1_ridges)), (h_p1_numbers, .inl (cI, 6, .inl p1_numbers)), (h_t, .inr (2, fX2 h_t_wayOn h_t_lowest h_t_highest h_t_seenAt h_t_firstRow x34 x2 x54 h_t_drawnFor t_drawnStride)), (h_t_lowest, .inl (cI, 40, .inl y35)), (h_t_highest, .inl (cI, 40, .inl y36)), (h_t_seenAt, .inl (cI, 840, .inl y37)), (h_p1_signs, .inr (4, fX4 p1_signs_limit h_p1_signs_cells p1_signs_size)), (h_p1_signs_cells, .inl (cI, n_p1_signs_cells, .inl p1_signs_cells)), (h_t_wayOn, .inl (cI, 26880, .inl y44)), (h_t_firstRow, .inl (cI, 40, .inl y55)), (h_t_drawnFor, .inr (4, fX4 t_drawnFor_limit h_t_drawnFor_cells x57)), (h_t_drawnFor_cells, .inl (cI, n_t_drawnFor_cells, .inl y58))]) (v := (none)) ⟨hx, hb, hml, hown, hts⟩ (c_X4_copyFrom l dC dI cI cZ te h_t_drawnFor h_p1_signs h_t_drawnFor_cells h_p1_signs_cells t_drawnFor_limit t_drawnFor_size p1_signs_limit p1_signs_size n_p1_signs_cells p1_signs_cells n_t_drawnFor_cells t_drawnFor_cells x57 y58 hg59) (cwV 1 hts gX2_draw_X4_copyFrom rfl rfl rfl (by decide +kernel) ⟨Nat.le_of_ble_eq_true rfl, Nat.le_of_ble_eq_true rfl⟩) (kS_env te) hK hP hD hS hA hE [10, 6, 7, 11] [0, 1, 2, 3, 4, 5, 8, 9] [0, 1, 2, 3, 4, 5, 9, 10, 6, 7, 8, 11] rfl rfl (by decide) (by decide) (by decide) (by decide) rfl 10 4 rfl rfl rfl rfl hl.1 rfl (Nat.le_of_ble_eq_true rfl) dX2_draw_74 ⟨Nat.zero_le _, Nat.zero_le _⟩ (fun H locs hP hD hS => ?_)
        show W p l e rmX2_draw s m args below meth c H locs 0 0 Q (F0 m 77 ls [])
        refine lv_aload_n hx hb dX2_draw_77 rfl (lv_at hl 0 rfl) ?_
        refine lv_aload_n hx hb dX2_draw_78 rfl (lv_at hl 0 rfl) ?_
        refine va_get (D := (dC, dI)) (ci := 2) (v := .int x2) (C := RX2) (T := TX2) (N := 10) hx hb hts kX2_draw_2 hown hK hP 2 rfl rfl 6 (by decide) (hts _ kX2_draw_3) (fun _ h9 => h9) rfl dX2_draw_79 ?_
        refine va_put (D := (dC, dI)) (ci := 2) (v := .int x2) (ty := tyX2 9) (C := RX2) (T := TX2) (N := 10) hx hb hts kX2_draw_2 tyX2 tyX2_ok nmX2 hown hK hP hD hS 2 rfl rfl 9 (by decide) (hts _ kX2_draw_4) (fun _ h9 => h9) rfl (tyX2_ok 9 (by decide)) rfl rfl (Nat.le_of_ble_eq_true rfl) dX2_draw_82 (fun H locs hP hD hS => ?_)
        have hP : va_P (dC, dI) vwCl [(h_p1, .inr (1, fX1 h_p1_surfaces h_p1_cliffs h_p1_boulders h_p1_scratches h_p1_numbers h_p1_facts h_p1_signs h_p1_areas h_p1_heights p1_ridges)), (h_p1_numbers, .inl (cI, 6, .inl p1_numbers)), (h_t, .inr (2, fX2 h_t_wayOn h_t_lowest h_t_highest h_t_seenAt h_t_firstRow x34 x2 x54 h_t_drawnFor x2)), (h_t_lowest, .inl (cI, 40, .inl y35)), (h_t_highest, .inl (cI, 40, .inl y36)), (h_t_seenAt, .inl (cI, 840, .inl y37)), (h_p1_signs, .inr (4, fX4 p1_signs_limit h_p1_signs_cells p1_signs_size)), (h_p1_signs_cells, .inl (cI, n_p1_signs_cells, .inl p1_signs_cells)), (h_t_wayOn, .inl (cI, 26880, .inl y44)), (h_t_firstRow, .inl (cI, 40, .inl y55)), (h_t_drawnFor, .inr (4, fX4 t_drawnFor_limit h_t_drawnFor_cells x57)), (h_t_drawnFor_cells, .inl (cI, n_t_drawnFor_cells, .inl y58))] H := hP
        have hD : va_D A [(h_p1, .inr (1, fX1 h_p1_surfaces h_p1_cliffs h_p1_boulders h_p1_scratches h_p1_numbers h_p1_facts h_p1_signs h_p1_areas h_p1_heights p1_ridges)), (h_p1_numbers, .inl (cI, 6, .inl p1_numbers)), (h_t, .inr (2, fX2 h_t_wayOn h_t_lowest h_t_highest h_t_seenAt h_t_firstRow x34 x2 x54 h_t_drawnFor x2)), (h_t_lowest, .inl (cI, 40, .inl y35)), (h_t_highest, .inl (cI, 40, .inl y36)), (h_t_seenAt, .inl (cI, 840, .inl y37)), (h_p1_signs, .inr (4, fX4 p1_signs_limit h_p1_signs_cells p1_signs_size)), (h_p1_signs_cells, .inl (cI, n_p1_signs_cells, .inl p1_signs_cells)), (h_t_wayOn, .inl (cI, 26880, .inl y44)), (h_t_firstRow, .inl (cI, 40, .inl y55)), (h_t_drawnFor, .inr (4, fX4 t_drawnFor_limit h_t_drawnFor_cells x57)), (h_t_drawnFor_cells, .inl (cI, n_t_drawnFor_cells, .inl y58))] := hD
        obtain ⟨rfl, rfl, rfl, rfl, rfl, rfl, rfl, rfl, rfl, rfl, rfl⟩ := inj11 hf
        subst hQ
        exact CM_vret hx hb hr hlocks hAe hP hD hS dX2_draw_85
    · replace hf := ifn c33 hf
      obtain ⟨rfl, rfl, rfl, rfl, rfl, rfl, rfl, rfl, rfl, rfl, rfl⟩ := inj11 hf
      subst hQ
      exact CM_vret hx hb hr hlocks hAe hP hD hS dX2_draw_35
def rmX3_volume : Room := { frames := 1, cells := 0, slots := 0, locals := 21 }
set_option maxRecDepth 20000 in
theorem kX3_volume_0 : Cond.methodLink RX3 13 Lib.Math.max.name ∈ wsX3_volume := by decide +kernel
set_option maxRecDepth 20000 in
theorem kX3_volume_1 : Cond.static Lib.Math.max.name ∈ wsX3_volume := by decide +kernel
set_option maxRecDepth 20000 in
theorem kX3_volume_2 : Cond.initialized "java/lang/Math" ∈ wsX3_volume := by decide +kernel
set_option maxRecDepth 20000 in
theorem kX3_volume_3 : Cond.code Lib.Math.max.name Lib.Math.max.code 2 (some .int) ∈ wsX3_volume := by decide +kernel
set_option maxHeartbeats 4000000 in
set_option maxRecDepth 100000 in
theorem c_X3_volume (l : Launch) (dC : Nat → ClassId) (dI : Nat → Nat → Nat) (cI cZ : ClassId) (te : Nat → Nat) (h_p1 : Nat) (n_p1 : Nat) (p1 : Nat → Int32) (p2 : Int32) (p3 : Int32) (o0 : Int32) (hf : f_X3_volume n_p1 p1 p2 p3 = some o0) : CM l yX3_volume wsX3_volume rmX3_volume (kS te) dC dI cI cZ [.ref h_p1, .int p2, .int p3] [(h_p1, .inl (cI, n_p1, .inl p1))] [(h_p1, .inl (cI, n_p1, .inl p1))] (some (.int o0)) := by
  refine CM_of (cc := cX3_volume) (maxL := 5) (ret := (some .int)) (by decide +kernel) rfl (Nat.le_of_ble_eq_true rfl) ?_
  intro p e s m args below meth c A Q hx hb hr hml hown hts hlocks hA hK hP hD hS hE hQ hAe ls hl
  have hown : s.vm.findClass RX3 = some m.cls := hown
  have hl : lv_has ls 5 [(0, .ref h_p1), (1, .int p2), (2, .int p3)] := hl
  unfold f_X3_volume at hf
  refine lv_iconst (v := (0 : Int32)) hx hb dX3_volume_0 (by decide) ?_
  refine lv_istore_n (lv' := [(3, .int (0 : Int32)), (0, .ref h_p1), (1, .int p2), (2, .int p3)]) hx hb dX3_volume_1 rfl hl (by decide) rfl (fun ls hl => ?_)
  refine lv_iconst (v := (0 : Int32)) hx hb dX3_volume_2 (by decide) ?_
  refine lv_iload_n hx hb dX3_volume_3 rfl (lv_at hl 3 rfl) ?_
  refine va_mmax hx hb (hml.trans hl.1.symm) hown (hts _ kX3_volume_0) (hts _ kX3_volume_1) (hts _ kX3_volume_2) (hts _ kX3_volume_3) (Nat.le_of_ble_eq_true rfl) (Nat.le_of_ble_eq_true rfl) (Nat.zero_le _) (Nat.zero_le _) dX3_volume_4 ?_
  obtain ⟨x1, e2, hf⟩ := nm_some hf
  refine lv_tope e2 ?_
  refine lv_istore (lv' := [(4, .int x1), (3, .int (0 : Int32)), (0, .ref h_p1), (1, .int p2), (2, .int p3)]) hx hb dX3_volume_7 hl (by decide) rfl (fun ls hl => ?_)
  have L21 : ∀ (fu14 : Nat) (x11 : Int32) (x12 : Int32) (x10 : Int32), f_X3_volume_L1 p2 n_p1 p1 fu14 x11 x12 = some x10 → (∀ (H : Heap) (locs : List Loc), va_P (dC, dI) vwCl [(h_p1, .inl (cI, n_p1, .inl p1))] H → va_D A [(h_p1, .inl (cI, n_p1, .inl p1))] → va_S A s.heap H locs → ∀ ls : Array Slot, lv_has ls 5 [(3, .int x10)] → W p l e rmX3_volume s m args below meth c H locs 0 0 Q (F0 m 35 ls [])) → ∀ (H : Heap) (locs : List Loc), va_P (dC, dI) vwCl [(h_p1, .inl (cI, n_p1, .inl p1))] H → va_D A [(h_p1, .inl (cI, n_p1, .inl p1))] → va_S A s.heap H locs → ∀ ls : Array Slot, lv_has ls 5 [(0, .ref h_p1), (1, .int p2), (3, .int x11), (4, .int x12)] → W p l e rmX3_volume s m args below meth c H locs 0 0 Q (F0 m 9 ls []) := by
    intro fu14
    induction fu14 with
    | zero =>
      intro x11 x12 x10 hf
      unfold f_X3_volume_L1 at hf
      exact none_ne hf
    | succ fu14 ih13 =>
      intro x11 x12 x10 hf hX15 H locs hP hD hS ls hl
      unfold f_X3_volume_L1 at hf
      refine lv_iload hx hb dX3_volume_9 (lv_at hl 3 rfl) ?_
      refine lv_iload_n hx hb dX3_volume_11 rfl (lv_at hl 1 rfl) ?_
      refine lv_icmp_ge (tgt := 35) hx hb dX3_volume_12 (by decide) (fun c16 => ?_) (fun c16 => ?_)
      · replace hf := ifp c16 hf
        obtain rfl := inj1 hf
        exact hX15 _ _ hP hD hS _ (lv_sub hl [2] rfl)
      · replace hf := ifn c16 hf
        refine lv_iload hx hb dX3_volume_15 (lv_at hl 3 rfl) ?_
        refine lv_aload_n hx hb dX3_volume_17 rfl (lv_at hl 0 rfl) ?_
        refine va_alen hx hb hK hP 0 0 rfl rfl (v := (Int32.ofNat n_p1)) rfl dX3_volume_18 ?_
        refine lv_icmp_ge (tgt := 35) hx hb dX3_volume_19 (by decide) (fun c17 => ?_) (fun c17 => ?_)
        · replace hf := ifp c17 hf
          obtain rfl := inj1 hf
          exact hX15 _ _ hP hD hS _ (lv_sub hl [2] rfl)
        · replace hf := ifn c17 hf
          refine lv_iload_n hx hb dX3_volume_22 rfl (lv_at hl 2 rfl) ?_
          refine lv_aload_n hx hb dX3_volume_23 rfl (lv_at hl 0 rfl) ?_
          refine lv_iload hx hb dX3_volume_24 (lv_at hl 3 rfl) ?_
          obtain ⟨g18, hf⟩ := chk_some hf
          refine va_iald hx hb hK hP 0 0 rfl rfl (gin_in g18) dX3_volume_26 ?_
          refine lv_iadd hx hb dX3_volume_27 ?_
          obtain ⟨x19, e20, hf⟩ := nm_some hf
          refine lv_tope e20 ?_
          refine lv_istore_n (lv' := [(3, .int x19), (0, .ref h_p1), (1, .int p2), (4, .int x12)]) hx hb dX3_volume_28 rfl hl (by decide) rfl (fun ls hl => ?_)
          refine lv_iinc (v := (x12 + (1 : Int32))) (lv' := [(4, .int (x12 + (1 : Int32))), (3, .int x19), (0, .ref h_p1), (1, .int p2)]) hx hb dX3_volume_29 hl (k := 3) rfl rfl (by decide) rfl (fun ls hl => ?_)
          refine lv_goto (tgt := 9) hx hb dX3_volume_32 (by decide) ?_
          exact ih13 _ _ _ hf hX15 _ _ hP hD hS _ (lv_sub hl [2, 3, 1, 0] rfl)
  obtain ⟨x10, hg, hf⟩ := bd1_some hf
  refine L21 FU _ _ _ hg ?_ _ _ hP hD hS _ (lv_sub hl [2, 3, 1, 0] rfl)
  · intro H locs hP hD hS ls hl
    refine lv_iload_n hx hb dX3_volume_35 rfl (lv_at hl 0 rfl) ?_
    obtain rfl := inj1 hf
    subst hQ
    exact CM_iret hx hb hr rfl hlocks hAe hP hD hS dX3_volume_36
def rmX3_hours : Room := { frames := 0, cells := 0, slots := 0, locals := 0 }
set_option maxRecDepth 20000 in
theorem kX3_hours_0 : ∀ w ∈ u_ws RX3 TX3 3, w ∈ wsX3_hours := by decide +kernel
set_option maxRecDepth 20000 in
theorem kX3_hours_1 : Cond.fieldLink RX3 19 "StoneRiver$Outburst" "hours" "I" ∈ wsX3_hours := by decide +kernel
set_option maxHeartbeats 4000000 in
set_option maxRecDepth 100000 in
theorem c_X3_hours (l : Launch) (dC : Nat → ClassId) (dI : Nat → Nat → Nat) (cI cZ : ClassId) (te : Nat → Nat) (h_t : Nat) (h_t_left : Nat) (t_hours : Int32) (t_greatest : Int32) (o0 : Int32) (hf : f_X3_hours t_hours = some o0) : CM l yX3_hours wsX3_hours rmX3_hours (kS te) dC dI cI cZ [.ref h_t] [(h_t, .inr (3, fX3 h_t_left t_hours t_greatest))] [(h_t, .inr (3, fX3 h_t_left t_hours t_greatest))] (some (.int o0)) := by
  refine CM_of (cc := cX3_hours) (maxL := 1) (ret := (some .int)) (by decide +kernel) rfl (Nat.le_of_ble_eq_true rfl) ?_
  intro p e s m args below meth c A Q hx hb hr hml hown hts hlocks hA hK hP hD hS hE hQ hAe ls hl
  have hown : s.vm.findClass RX3 = some m.cls := hown
  have hl : lv_has ls 1 [(0, .ref h_t)] := hl
  unfold f_X3_hours at hf
  refine lv_aload_n hx hb dX3_hours_0 rfl (lv_at hl 0 rfl) ?_
  refine va_get (D := (dC, dI)) (ci := 3) (v := .int t_hours) (C := RX3) (T := TX3) (N := 3) hx hb hts kX3_hours_0 hown hK hP 0 rfl rfl 1 (by decide) (hts _ kX3_hours_1) (fun _ h9 => h9) rfl dX3_hours_1 ?_
  obtain rfl := inj1 hf
  subst hQ
  exact CM_iret hx hb hr rfl hlocks hAe hP hD hS dX3_hours_4
def rmX3_greatest : Room := { frames := 0, cells := 0, slots := 0, locals := 0 }
set_option maxRecDepth 20000 in
theorem kX3_greatest_0 : ∀ w ∈ u_ws RX3 TX3 3, w ∈ wsX3_greatest := by decide +kernel
set_option maxRecDepth 20000 in
theorem kX3_greatest_1 : Cond.fieldLink RX3 23 "StoneRiver$Outburst" "greatest" "I" ∈ wsX3_greatest := by decide +kernel
set_option maxHeartbeats 4000000 in
set_option maxRecDepth 100000 in
theorem c_X3_greatest (l : Launch) (dC : Nat → ClassId) (dI : Nat → Nat → Nat) (cI cZ : ClassId) (te : Nat → Nat) (h_t : Nat) (h_t_left : Nat) (t_hours : Int32) (t_greatest : Int32) (o0 : Int32) (hf : f_X3_greatest t_greatest = some o0) : CM l yX3_greatest wsX3_greatest rmX3_greatest (kS te) dC dI cI cZ [.ref h_t] [(h_t, .inr (3, fX3 h_t_left t_hours t_greatest))] [(h_t, .inr (3, fX3 h_t_left t_hours t_greatest))] (some (.int o0)) := by
  refine CM_of (cc := cX3_greatest) (maxL := 1) (ret := (some .int)) (by decide +kernel) rfl (Nat.le_of_ble_eq_true rfl) ?_
  intro p e s m args below meth c A Q hx hb hr hml hown hts hlocks hA hK hP hD hS hE hQ hAe ls hl
  have hown : s.vm.findClass RX3 = some m.cls := hown
  have hl : lv_has ls 1 [(0, .ref h_t)] := hl
  unfold f_X3_greatest at hf
  refine lv_aload_n hx hb dX3_greatest_0 rfl (lv_at hl 0 rfl) ?_
  refine va_get (D := (dC, dI)) (ci := 3) (v := .int t_greatest) (C := RX3) (T := TX3) (N := 3) hx hb hts kX3_greatest_0 hown hK hP 0 rfl rfl 2 (by decide) (hts _ kX3_greatest_1) (fun _ h9 => h9) rfl dX3_greatest_1 ?_
  obtain rfl := inj1 hf
  subst hQ
  exact CM_iret hx hb hr rfl hlocks hAe hP hD hS dX3_greatest_4
def rmX3_highestWithSomething : Room := { frames := 0, cells := 0, slots := 0, locals := 0 }
set_option maxRecDepth 20000 in
theorem kX3_highestWithSomething_0 : ∀ w ∈ u_ws RX3 TX3 3, w ∈ wsX3_highestWithSomething := by decide +kernel
set_option maxRecDepth 20000 in
theorem kX3_highestWithSomething_1 : Cond.fieldLink RX3 9 "StoneRiver$Outburst" "left" "[I" ∈ wsX3_highestWithSomething := by decide +kernel
set_option maxHeartbeats 4000000 in
set_option maxRecDepth 100000 in
theorem c_X3_highestWithSomething (l : Launch) (dC : Nat → ClassId) (dI : Nat → Nat → Nat) (cI cZ : ClassId) (te : Nat → Nat) (h_t : Nat) (h_t_left : Nat) (t_hours : Int32) (t_greatest : Int32) (t_left : Nat → Int32) (p1 : Int32) (p2 : Int32) (o0 : Int32) (hf : f_X3_highestWithSomething t_left p1 p2 = some o0) : CM l yX3_highestWithSomething wsX3_highestWithSomething rmX3_highestWithSomething (kS te) dC dI cI cZ [.ref h_t, .int p1, .int p2] [(h_t, .inr (3, fX3 h_t_left t_hours t_greatest)), (h_t_left, .inl (cI, 20, .inl t_left))] [(h_t, .inr (3, fX3 h_t_left t_hours t_greatest)), (h_t_left, .inl (cI, 20, .inl t_left))] (some (.int o0)) := by
  refine CM_of (cc := cX3_highestWithSomething) (maxL := 4) (ret := (some .int)) (by decide +kernel) rfl (Nat.le_of_ble_eq_true rfl) ?_
  intro p e s m args below meth c A Q hx hb hr hml hown hts hlocks hA hK hP hD hS hE hQ hAe ls hl
  have hown : s.vm.findClass RX3 = some m.cls := hown
  have hl : lv_has ls 4 [(0, .ref h_t), (1, .int p1), (2, .int p2)] := hl
  unfold f_X3_highestWithSomething at hf
  refine lv_iload_n hx hb dX3_highestWithSomething_0 rfl (lv_at hl 1 rfl) ?_
  refine lv_istore_n (lv' := [(3, .int p1), (0, .ref h_t), (1, .int p1), (2, .int p2)]) hx hb dX3_highestWithSomething_1 rfl hl (by decide) rfl (fun ls hl => ?_)
  have L15 : ∀ (fu9 : Nat) (x7 : Int32) (x6 : Int32), f_X3_highestWithSomething_L1 p2 t_left fu9 x7 = some x6 → (∀ (H : Heap) (locs : List Loc), va_P (dC, dI) vwCl [(h_t, .inr (3, fX3 h_t_left t_hours t_greatest)), (h_t_left, .inl (cI, 20, .inl t_left))] H → va_D A [(h_t, .inr (3, fX3 h_t_left t_hours t_greatest)), (h_t_left, .inl (cI, 20, .inl t_left))] → va_S A s.heap H locs → ∀ ls : Array Slot, lv_has ls 4 [(3, .int x6)] → W p l e rmX3_highestWithSomething s m args below meth c H locs 0 0 Q (F0 m 26 ls [])) → ∀ (H : Heap) (locs : List Loc), va_P (dC, dI) vwCl [(h_t, .inr (3, fX3 h_t_left t_hours t_greatest)), (h_t_left, .inl (cI, 20, .inl t_left))] H → va_D A [(h_t, .inr (3, fX3 h_t_left t_hours t_greatest)), (h_t_left, .inl (cI, 20, .inl t_left))] → va_S A s.heap H locs → ∀ ls : Array Slot, lv_has ls 4 [(0, .ref h_t), (2, .int p2), (3, .int x7)] → W p l e rmX3_highestWithSomething s m args below meth c H locs 0 0 Q (F0 m 2 ls []) := by
    intro fu9
    induction fu9 with
    | zero =>
      intro x7 x6 hf
      unfold f_X3_highestWithSomething_L1 at hf
      exact none_ne hf
    | succ fu9 ih8 =>
      intro x7 x6 hf hX10 H locs hP hD hS ls hl
      unfold f_X3_highestWithSomething_L1 at hf
      refine lv_iload_n hx hb dX3_highestWithSomething_2 rfl (lv_at hl 2 rfl) ?_
      refine lv_iload_n hx hb dX3_highestWithSomething_3 rfl (lv_at hl 1 rfl) ?_
      refine lv_icmp_le (tgt := 26) hx hb dX3_highestWithSomething_4 (by decide) (fun c11 => ?_) (fun c11 => ?_)
      · replace hf := ifp c11 hf
        obtain rfl := inj1 hf
        exact hX10 _ _ hP hD hS _ (lv_sub hl [2] rfl)
      · replace hf := ifn c11 hf
        refine lv_iload_n hx hb dX3_highestWithSomething_7 rfl (lv_at hl 2 rfl) ?_
        refine lv_if_le (tgt := 26) hx hb dX3_highestWithSomething_8 (by decide) (fun c12 => ?_) (fun c12 => ?_)
        · replace hf := ifp c12 hf
          obtain rfl := inj1 hf
          exact hX10 _ _ hP hD hS _ (lv_sub hl [2] rfl)
        · replace hf := ifn c12 hf
          refine lv_aload_n hx hb dX3_highestWithSomething_11 rfl (lv_at hl 0 rfl) ?_
          refine va_get (D := (dC, dI)) (ci := 3) (v := .ref h_t_left) (C := RX3) (T := TX3) (N := 3) hx hb hts kX3_highestWithSomething_0 hown hK hP 0 rfl rfl 0 (by decide) (hts _ kX3_highestWithSomething_1) (fun _ h9 => h9) rfl dX3_highestWithSomething_12 ?_
          refine lv_iload_n hx hb dX3_highestWithSomething_15 rfl (lv_at hl 2 rfl) ?_
          obtain ⟨g13, hf⟩ := chk_some hf
          refine va_iald hx hb hK hP 1 0 rfl rfl (gin_in g13) dX3_highestWithSomething_16 ?_
          refine lv_if_ne (tgt := 26) hx hb dX3_highestWithSomething_17 (by decide) (fun c14 => ?_) (fun c14 => ?_)
          · replace hf := ifn c14 hf
            obtain rfl := inj1 hf
            exact hX10 _ _ hP hD hS _ (lv_sub hl [2] rfl)
          · replace hf := ifp c14 hf
            refine lv_iinc (v := (x7 + (-1 : Int32))) (lv' := [(3, .int (x7 + (-1 : Int32))), (0, .ref h_t), (2, .int p2)]) hx hb dX3_highestWithSomething_20 hl (k := 2) rfl rfl (by decide) rfl (fun ls hl => ?_)
            refine lv_goto (tgt := 2) hx hb dX3_highestWithSomething_23 (by decide) ?_
            exact ih8 _ _ hf hX10 _ _ hP hD hS _ (lv_sub hl [1, 2, 0] rfl)
  obtain ⟨x6, hg, hf⟩ := bd1_some hf
  refine L15 FU _ _ hg ?_ _ _ hP hD hS _ (lv_sub hl [1, 3, 0] rfl)
  · intro H locs hP hD hS ls hl
    refine lv_iload_n hx hb dX3_highestWithSomething_26 rfl (lv_at hl 0 rfl) ?_
    obtain rfl := inj1 hf
    subst hQ
    exact CM_iret hx hb hr rfl hlocks hAe hP hD hS dX3_highestWithSomething_27
def rmX3_drain : Room := { frames := 1, cells := 0, slots := 0, locals := 21 }
set_option maxRecDepth 20000 in
theorem kX3_drain_0 : ∀ w ∈ u_ws RX3 TX3 3, w ∈ wsX3_drain := by decide +kernel
set_option maxRecDepth 20000 in
theorem kX3_drain_1 : Cond.fieldLink RX3 9 "StoneRiver$Outburst" "left" "[I" ∈ wsX3_drain := by decide +kernel
set_option maxRecDepth 20000 in
theorem kX3_drain_2 : Cond.methodLink RX3 41 Lib.Math.min.name ∈ wsX3_drain := by decide +kernel
set_option maxRecDepth 20000 in
theorem kX3_drain_3 : Cond.static Lib.Math.min.name ∈ wsX3_drain := by decide +kernel
set_option maxRecDepth 20000 in
theorem kX3_drain_4 : Cond.initialized "java/lang/Math" ∈ wsX3_drain := by decide +kernel
set_option maxRecDepth 20000 in
theorem kX3_drain_5 : Cond.code Lib.Math.min.name Lib.Math.min.code 2 (some .int) ∈ wsX3_drain := by decide +kernel
set_option maxHeartbeats 4000000 in
set_option maxRecDepth 100000 in
theorem c_X3_drain (l : Launch) (dC : Nat → ClassId) (dI : Nat → Nat → Nat) (cI cZ : ClassId) (te : Nat → Nat) (h_t : Nat) (h_t_left : Nat) (t_hours : Int32) (t_greatest : Int32) (t_left : Nat → Int32) (p1 : Int32) (p2 : Int32) (p3 : Int32) (o0 : Nat → Int32) (hf : f_X3_drain t_left p1 p2 p3 = some o0) : CM l yX3_drain wsX3_drain rmX3_drain (kS te) dC dI cI cZ [.ref h_t, .int p1, .int p2, .int p3] [(h_t, .inr (3, fX3 h_t_left t_hours t_greatest)), (h_t_left, .inl (cI, 20, .inl t_left))] [(h_t, .inr (3, fX3 h_t_left t_hours t_greatest)), (h_t_left, .inl (cI, 20, .inl o0))] none := by
  refine CM_of (cc := cX3_drain) (maxL := 7) (ret := none) (by decide +kernel) rfl (Nat.le_of_ble_eq_true rfl) ?_
  intro p e s m args below meth c A Q hx hb hr hml hown hts hlocks hA hK hP hD hS hE hQ hAe ls hl
  have hown : s.vm.findClass RX3 = some m.cls := hown
  have hl : lv_has ls 7 [(0, .ref h_t), (1, .int p1), (2, .int p2), (3, .int p3)] := hl
  unfold f_X3_drain at hf
  refine lv_iload_n hx hb dX3_drain_0 rfl (lv_at hl 3 rfl) ?_
  refine lv_istore (lv' := [(4, .int p3), (0, .ref h_t), (1, .int p1), (2, .int p2), (3, .int p3)]) hx hb dX3_drain_1 hl (by decide) rfl (fun ls hl => ?_)
  refine lv_iload_n hx hb dX3_drain_3 rfl (lv_at hl 2 rfl) ?_
  refine lv_istore (lv' := [(5, .int p1), (4, .int p3), (0, .ref h_t), (1, .int p1), (2, .int p2), (3, .int p3)]) hx hb dX3_drain_4 hl (by decide) rfl (fun ls hl => ?_)
  have L37 : ∀ (fu22 : Nat) (y18 : Nat → Int32) (x19 : Int32) (x20 : Int32) (y17 : Nat → Int32), f_X3_drain_L1 p2 fu22 y18 x19 x20 = some y17 → (∀ (H : Heap) (locs : List Loc), va_P (dC, dI) vwCl [(h_t, .inr (3, fX3 h_t_left t_hours t_greatest)), (h_t_left, .inl (cI, 20, .inl y17))] H → va_D A [(h_t, .inr (3, fX3 h_t_left t_hours t_greatest)), (h_t_left, .inl (cI, 20, .inl y17))] → va_S A s.heap H locs → ∀ ls : Array Slot, lv_has ls 7 [] → W p l e rmX3_drain s m args below meth c H locs 0 0 Q (F0 m 56 ls [])) → ∀ (H : Heap) (locs : List Loc), va_P (dC, dI) vwCl [(h_t, .inr (3, fX3 h_t_left t_hours t_greatest)), (h_t_left, .inl (cI, 20, .inl y18))] H → va_D A [(h_t, .inr (3, fX3 h_t_left t_hours t_greatest)), (h_t_left, .inl (cI, 20, .inl y18))] → va_S A s.heap H locs → ∀ ls : Array Slot, lv_has ls 7 [(0, .ref h_t), (2, .int p2), (4, .int x19), (5, .int x20)] → W p l e rmX3_drain s m args below meth c H locs 0 0 Q (F0 m 6 ls []) := by
    intro fu22
    induction fu22 with
    | zero =>
      intro y18 x19 x20 y17 hf
      unfold f_X3_drain_L1 at hf
      exact none_ne hf
    | succ fu22 ih21 =>
      intro y18 x19 x20 y17 hf hX23 H locs hP hD hS ls hl
      unfold f_X3_drain_L1 at hf
      refine lv_iload hx hb dX3_drain_6 (lv_at hl 3 rfl) ?_
      refine lv_iload_n hx hb dX3_drain_8 rfl (lv_at hl 1 rfl) ?_
      refine lv_icmp_lt (tgt := 56) hx hb dX3_drain_9 (by decide) (fun c24 => ?_) (fun c24 => ?_)
      · replace hf := ifp c24 hf
        obtain rfl := inj1 hf
        exact hX23 _ _ hP hD hS _ (lv_sub hl [] rfl)
      · replace hf := ifn c24 hf
        refine lv_iload hx hb dX3_drain_12 (lv_at hl 3 rfl) ?_
        refine lv_if_lt (tgt := 56) hx hb dX3_drain_14 (by decide) (fun c25 => ?_) (fun c25 => ?_)
        · replace hf := ifp c25 hf
          obtain rfl := inj1 hf
          exact hX23 _ _ hP hD hS _ (lv_sub hl [] rfl)
        · replace hf := ifn c25 hf
          refine lv_iload hx hb dX3_drain_17 (lv_at hl 2 rfl) ?_
          refine lv_aload_n hx hb dX3_drain_19 rfl (lv_at hl 0 rfl) ?_
          refine va_get (D := (dC, dI)) (ci := 3) (v := .ref h_t_left) (C := RX3) (T := TX3) (N := 3) hx hb hts kX3_drain_0 hown hK hP 0 rfl rfl 0 (by decide) (hts _ kX3_drain_1) (fun _ h9 => h9) rfl dX3_drain_20 ?_
          refine lv_iload hx hb dX3_drain_23 (lv_at hl 3 rfl) ?_
          obtain ⟨g26, hf⟩ := chk_some hf
          refine va_iald hx hb hK hP 1 0 rfl rfl (gin_in g26) dX3_drain_25 ?_
          refine va_mmin hx hb (hml.trans hl.1.symm) hown (hts _ kX3_drain_2) (hts _ kX3_drain_3) (hts _ kX3_drain_4) (hts _ kX3_drain_5) (Nat.le_of_ble_eq_true rfl) (Nat.le_of_ble_eq_true rfl) (Nat.zero_le _) (Nat.zero_le _) dX3_drain_26 ?_
          obtain ⟨x27, e28, hf⟩ := nm_some hf
          refine lv_tope e28 ?_
          refine lv_istore (lv' := [(6, .int x27), (0, .ref h_t), (2, .int p2), (4, .int x19), (5, .int x20)]) hx hb dX3_drain_29 hl (by decide) rfl (fun ls hl => ?_)
          refine lv_aload_n hx hb dX3_drain_31 rfl (lv_at hl 1 rfl) ?_
          refine va_get (D := (dC, dI)) (ci := 3) (v := .ref h_t_left) (C := RX3) (T := TX3) (N := 3) hx hb hts kX3_drain_0 hown hK hP 0 rfl rfl 0 (by decide) (hts _ kX3_drain_1) (fun _ h9 => h9) rfl dX3_drain_32 ?_
          refine lv_iload hx hb dX3_drain_35 (lv_at hl 4 rfl) ?_
          refine lv_dup2_11 hx hb dX3_drain_37 rfl rfl ?_
          obtain ⟨g29, hf⟩ := chk_some hf
          refine va_iald hx hb hK hP 1 0 rfl rfl (gin_in g29) dX3_drain_38 ?_
          refine lv_iload hx hb dX3_drain_39 (lv_at hl 0 rfl) ?_
          refine lv_isub hx hb dX3_drain_41 ?_
          obtain ⟨x30, e31, hf⟩ := nm_some hf
          refine lv_tope e31 ?_
          obtain ⟨g32, hf⟩ := chk_some hf
          obtain ⟨y33, e34, hf⟩ := nm_some hf
          refine va_iast hx hb hK hP hD hS 1 0 rfl rfl (gin_in g32) dX3_drain_42 (fun H locs hP hD hS => ?_)
          have hP : va_P (dC, dI) vwCl [(h_t, .inr (3, fX3 h_t_left t_hours t_greatest)), (h_t_left, .inl (cI, 20, .inl y33))] H := by rw [e34]; exact hP
          have hD : va_D A [(h_t, .inr (3, fX3 h_t_left t_hours t_greatest)), (h_t_left, .inl (cI, 20, .inl y33))] := by rw [e34]; exact hD
          refine lv_iload hx hb dX3_drain_43 (lv_at hl 3 rfl) ?_
          refine lv_iload hx hb dX3_drain_45 (lv_at hl 0 rfl) ?_
          refine lv_isub hx hb dX3_drain_47 ?_
          obtain ⟨x35, e36, hf⟩ := nm_some hf
          refine lv_tope e36 ?_
          refine lv_istore (lv' := [(4, .int x35), (6, .int x27), (0, .ref h_t), (2, .int p2), (5, .int x20)]) hx hb dX3_drain_48 hl (by decide) rfl (fun ls hl => ?_)
          refine lv_iinc (v := (x20 + (-1 : Int32))) (lv' := [(5, .int (x20 + (-1 : Int32))), (4, .int x35), (6, .int x27), (0, .ref h_t), (2, .int p2)]) hx hb dX3_drain_50 hl (k := 4) rfl rfl (by decide) rfl (fun ls hl => ?_)
          refine lv_goto (tgt := 6) hx hb dX3_drain_53 (by decide) ?_
          exact ih21 _ _ _ _ hf hX23 _ _ hP hD hS _ (lv_sub hl [3, 4, 1, 0] rfl)
  obtain ⟨y17, hg, hf⟩ := bd1_some hf
  refine L37 FU _ _ _ _ hg ?_ _ _ hP hD hS _ (lv_sub hl [2, 4, 1, 0] rfl)
  · intro H locs hP hD hS ls hl
    obtain rfl := inj1 hf
    subst hQ
    exact CM_vret hx hb hr hlocks hAe hP hD hS dX3_drain_56
def rmX3_run : Room := { frames := 2, cells := 0, slots := 0, locals := 47 }
set_option maxRecDepth 20000 in
theorem kX3_run_0 : ∀ w ∈ u_ws RX1 TX1 10, w ∈ wsX3_run := by decide +kernel
set_option maxRecDepth 20000 in
theorem kX3_run_1 : Cond.fieldLink RX3 26 "StoneRiver$Found" "areas" "[I" ∈ wsX3_run := by decide +kernel
set_option maxRecDepth 20000 in
theorem kX3_run_2 : ∀ w ∈ u_ws RX3 TX3 3, w ∈ wsX3_run := by decide +kernel
set_option maxRecDepth 20000 in
theorem kX3_run_3 : Cond.fieldLink RX3 9 "StoneRiver$Outburst" "left" "[I" ∈ wsX3_run := by decide +kernel
set_option maxRecDepth 20000 in
theorem kX3_run_4 : Cond.methodLink RX3 35 arraycopyName ∈ wsX3_run := by decide +kernel
set_option maxRecDepth 20000 in
theorem kX3_run_5 : Cond.native arraycopyName ∈ wsX3_run := by decide +kernel
set_option maxRecDepth 20000 in
theorem kX3_run_6 : Cond.static arraycopyName ∈ wsX3_run := by decide +kernel
set_option maxRecDepth 20000 in
theorem kX3_run_7 : Cond.initialized "java/lang/System" ∈ wsX3_run := by decide +kernel
set_option maxRecDepth 20000 in
theorem kX3_run_8 : Cond.fieldLink RX3 19 "StoneRiver$Outburst" "hours" "I" ∈ wsX3_run := by decide +kernel
set_option maxRecDepth 20000 in
theorem kX3_run_9 : Cond.fieldLink RX3 23 "StoneRiver$Outburst" "greatest" "I" ∈ wsX3_run := by decide +kernel
set_option maxRecDepth 20000 in
theorem kX3_run_10 : Cond.methodLink RX3 41 Lib.Math.min.name ∈ wsX3_run := by decide +kernel
set_option maxRecDepth 20000 in
theorem kX3_run_11 : Cond.static Lib.Math.min.name ∈ wsX3_run := by decide +kernel
set_option maxRecDepth 20000 in
theorem kX3_run_12 : Cond.initialized "java/lang/Math" ∈ wsX3_run := by decide +kernel
set_option maxRecDepth 20000 in
theorem kX3_run_13 : Cond.code Lib.Math.min.name Lib.Math.min.code 2 (some .int) ∈ wsX3_run := by decide +kernel
set_option maxRecDepth 20000 in
theorem kX3_run_14 : Cond.fieldLink RX3 47 "StoneRiver$Found" "numbers" "[I" ∈ wsX3_run := by decide +kernel
set_option maxRecDepth 20000 in
theorem kX3_run_15 : Cond.methodLink RX3 13 Lib.Math.max.name ∈ wsX3_run := by decide +kernel
set_option maxRecDepth 20000 in
theorem kX3_run_16 : Cond.static Lib.Math.max.name ∈ wsX3_run := by decide +kernel
set_option maxRecDepth 20000 in
theorem kX3_run_17 : Cond.code Lib.Math.max.name Lib.Math.max.code 2 (some .int) ∈ wsX3_run := by decide +kernel
set_option maxHeartbeats 4000000 in
set_option maxRecDepth 100000 in
theorem c_X3_run (l : Launch) (dC : Nat → ClassId) (dI : Nat → Nat → Nat) (cI cZ : ClassId) (te : Nat → Nat) (h_t : Nat) (h_p1 : Nat) (h_p1_surfaces : Nat) (h_p1_cliffs : Nat) (h_p1_boulders : Nat) (h_p1_scratches : Nat) (h_p1_numbers : Nat) (h_p1_facts : Nat) (h_p1_signs : Nat) (h_p1_areas : Nat) (h_p1_heights : Nat) (h_t_left : Nat) (p1_ridges : Int32) (p1_areas : Nat → Int32) (t_hours : Int32) (t_greatest : Int32) (t_left : Nat → Int32) (p1_numbers : Nat → Int32) (p2 : Int32) (p3 : Int32) (o0 : Int32) (o1 : Int32) (o2 : Nat → Int32) (hf : f_X3_run p1_areas t_left p1_numbers p2 p3 = some (o0, o1, o2)) : CM l yX3_run wsX3_run rmX3_run (kS te) dC dI cI cZ [.ref h_t, .ref h_p1, .int p2, .int p3] [(h_p1, .inr (1, fX1 h_p1_surfaces h_p1_cliffs h_p1_boulders h_p1_scratches h_p1_numbers h_p1_facts h_p1_signs h_p1_areas h_p1_heights p1_ridges)), (h_p1_areas, .inl (cI, 20, .inl p1_areas)), (h_t, .inr (3, fX3 h_t_left t_hours t_greatest)), (h_t_left, .inl (cI, 20, .inl t_left)), (h_p1_numbers, .inl (cI, 6, .inl p1_numbers))] [(h_p1, .inr (1, fX1 h_p1_surfaces h_p1_cliffs h_p1_boulders h_p1_scratches h_p1_numbers h_p1_facts h_p1_signs h_p1_areas h_p1_heights p1_ridges)), (h_p1_areas, .inl (cI, 20, .inl p1_areas)), (h_t, .inr (3, fX3 h_t_left o0 o1)), (h_t_left, .inl (cI, 20, .inl o2)), (h_p1_numbers, .inl (cI, 6, .inl p1_numbers))] none := by
  refine CM_of (cc := cX3_run) (maxL := 7) (ret := none) (by decide +kernel) rfl (Nat.le_of_ble_eq_true rfl) ?_
  intro p e s m args below meth c A Q hx hb hr hml hown hts hlocks hA hK hP hD hS hE hQ hAe ls hl
  have hown : s.vm.findClass RX3 = some m.cls := hown
  have hl : lv_has ls 7 [(0, .ref h_t), (1, .ref h_p1), (2, .int p2), (3, .int p3)] := hl
  unfold f_X3_run at hf
  refine lv_aload_n hx hb dX3_run_0 rfl (lv_at hl 1 rfl) ?_
  refine va_get (D := (dC, dI)) (ci := 1) (v := .ref h_p1_areas) (C := RX1) (T := TX1) (N := 10) hx hb hts kX3_run_0 hown hK hP 0 rfl rfl 7 (by decide) (hts _ kX3_run_1) (fun _ h9 => h9) rfl dX3_run_1 ?_
  refine lv_iload_n hx hb dX3_run_4 rfl (lv_at hl 2 rfl) ?_
  refine lv_iload_n hx hb dX3_run_5 rfl (lv_at hl 3 rfl) ?_
  obtain ⟨r1, hg2, hf⟩ := bd1_some hf
  refine CM_callS (As := [.ref h_p1_areas, .int p2, .int p3]) (rest := []) (wc := [(h_p1_areas, .inl (cI, 20, .inl p1_areas))]) (w1 := [(h_p1_areas, .inl (cI, 20, .inl p1_areas))]) (wr := [(h_p1, .inr (1, fX1 h_p1_surfaces h_p1_cliffs h_p1_boulders h_p1_scratches h_p1_numbers h_p1_facts h_p1_signs h_p1_areas h_p1_heights p1_ridges)), (h_t, .inr (3, fX3 h_t_left t_hours t_greatest)), (h_t_left, .inl (cI, 20, .inl t_left)), (h_p1_numbers, .inl (cI, 6, .inl p1_numbers))]) (wo := [(h_p1, .inr (1, fX1 h_p1_surfaces h_p1_cliffs h_p1_boulders h_p1_scratches h_p1_numbers h_p1_facts h_p1_signs h_p1_areas h_p1_heights p1_ridges)), (h_p1_areas, .inl (cI, 20, .inl p1_areas)), (h_t, .inr (3, fX3 h_t_left t_hours t_greatest)), (h_t_left, .inl (cI, 20, .inl t_left)), (h_p1_numbers, .inl (cI, 6, .inl p1_numbers))]) (v := (some (.int r1))) ⟨hx, hb, hml, hown, hts⟩ (c_X3_volume l dC dI cI cZ te h_p1_areas (20) p1_areas p2 p3 r1 hg2) (va_cwS 3 hts gX3_run_X3_volume rfl rfl rfl (by decide +kernel) ⟨Nat.le_of_ble_eq_true rfl, Nat.le_of_ble_eq_true rfl⟩) (kS_env te) hK hP hD hS hA hE [1] [0, 2, 3, 4] [0, 4, 1, 2, 3] rfl rfl (by decide) (by decide) (by decide) (by decide) rfl rfl hl.1 rfl (Nat.le_of_ble_eq_true rfl) dX3_run_6 ⟨Nat.zero_le _, Nat.zero_le _⟩ (fun H locs hP hD hS => ?_)
  show W p l e rmX3_run s m args below meth c H locs 0 0 Q (F0 m 9 ls [.int r1])
  refine lv_istore (lv' := [(4, .int r1), (0, .ref h_t), (1, .ref h_p1), (2, .int p2), (3, .int p3)]) hx hb dX3_run_9 hl (by decide) rfl (fun ls hl => ?_)
  refine lv_aload_n hx hb dX3_run_11 rfl (lv_at hl 2 rfl) ?_
  refine va_get (D := (dC, dI)) (ci := 1) (v := .ref h_p1_areas) (C := RX1) (T := TX1) (N := 10) hx hb hts kX3_run_0 hown hK hP 0 rfl rfl 7 (by decide) (hts _ kX3_run_1) (fun _ h9 => h9) rfl dX3_run_12 ?_
  refine lv_iconst (v := (0 : Int32)) hx hb dX3_run_15 (by decide) ?_
  refine lv_aload_n hx hb dX3_run_16 rfl (lv_at hl 1 rfl) ?_
  refine va_get (D := (dC, dI)) (ci := 3) (v := .ref h_t_left) (C := RX3) (T := TX3) (N := 3) hx hb hts kX3_run_2 hown hK hP 2 rfl rfl 0 (by decide) (hts _ kX3_run_3) (fun _ h9 => h9) rfl dX3_run_17 ?_
  refine lv_iconst (v := (0 : Int32)) hx hb dX3_run_20 (by decide) ?_
  refine lv_bipush (v := (20 : Int32)) hx hb dX3_run_21 (by decide) ?_
  obtain ⟨g3, hf⟩ := chk_some hf
  obtain ⟨y4, e5, hf⟩ := nm_some hf
  refine va_copyi hx hb (hml.trans hl.1.symm) hown (hts _ kX3_run_4) (hts _ kX3_run_5) (hts _ kX3_run_6) (hts _ kX3_run_7) hK hP hD hS 1 3 0 0 rfl rfl rfl rfl rfl (gcp_of g3).1 (gcp_of g3).2.1 (gcp_of g3).2.2.1 (gcp_of g3).2.2.2.1 (gcp_of g3).2.2.2.2 (fun _ _ => rfl) (Nat.le_of_ble_eq_true rfl) (Nat.le_of_ble_eq_true rfl) dX3_run_23 (fun H locs hP hD hS => ?_)
  have hP : va_P (dC, dI) vwCl [(h_p1, .inr (1, fX1 h_p1_surfaces h_p1_cliffs h_p1_boulders h_p1_scratches h_p1_numbers h_p1_facts h_p1_signs h_p1_areas h_p1_heights p1_ridges)), (h_p1_areas, .inl (cI, 20, .inl p1_areas)), (h_t, .inr (3, fX3 h_t_left t_hours t_greatest)), (h_t_left, .inl (cI, 20, .inl y4)), (h_p1_numbers, .inl (cI, 6, .inl p1_numbers))] H := by rw [e5]; exact hP
  have hD : va_D A [(h_p1, .inr (1, fX1 h_p1_surfaces h_p1_cliffs h_p1_boulders h_p1_scratches h_p1_numbers h_p1_facts h_p1_signs h_p1_areas h_p1_heights p1_ridges)), (h_p1_areas, .inl (cI, 20, .inl p1_areas)), (h_t, .inr (3, fX3 h_t_left t_hours t_greatest)), (h_t_left, .inl (cI, 20, .inl y4)), (h_p1_numbers, .inl (cI, 6, .inl p1_numbers))] := by rw [e5]; exact hD
  refine lv_aload_n hx hb dX3_run_26 rfl (lv_at hl 1 rfl) ?_
  refine lv_iconst (v := (0 : Int32)) hx hb dX3_run_27 (by decide) ?_
  refine va_put (D := (dC, dI)) (ci := 3) (v := .int (0 : Int32)) (ty := tyX3 1) (C := RX3) (T := TX3) (N := 3) hx hb hts kX3_run_2 tyX3 tyX3_ok nmX3 hown hK hP hD hS 2 rfl rfl 1 (by decide) (hts _ kX3_run_8) (fun _ h9 => h9) rfl (tyX3_ok 1 (by decide)) rfl rfl (Nat.le_of_ble_eq_true rfl) dX3_run_28 (fun H locs hP hD hS => ?_)
  have hP : va_P (dC, dI) vwCl [(h_p1, .inr (1, fX1 h_p1_surfaces h_p1_cliffs h_p1_boulders h_p1_scratches h_p1_numbers h_p1_facts h_p1_signs h_p1_areas h_p1_heights p1_ridges)), (h_p1_areas, .inl (cI, 20, .inl p1_areas)), (h_t, .inr (3, fX3 h_t_left (0 : Int32) t_greatest)), (h_t_left, .inl (cI, 20, .inl y4)), (h_p1_numbers, .inl (cI, 6, .inl p1_numbers))] H := hP
  have hD : va_D A [(h_p1, .inr (1, fX1 h_p1_surfaces h_p1_cliffs h_p1_boulders h_p1_scratches h_p1_numbers h_p1_facts h_p1_signs h_p1_areas h_p1_heights p1_ridges)), (h_p1_areas, .inl (cI, 20, .inl p1_areas)), (h_t, .inr (3, fX3 h_t_left (0 : Int32) t_greatest)), (h_t_left, .inl (cI, 20, .inl y4)), (h_p1_numbers, .inl (cI, 6, .inl p1_numbers))] := hD
  refine lv_aload_n hx hb dX3_run_31 rfl (lv_at hl 1 rfl) ?_
  refine lv_iconst (v := (0 : Int32)) hx hb dX3_run_32 (by decide) ?_
  refine va_put (D := (dC, dI)) (ci := 3) (v := .int (0 : Int32)) (ty := tyX3 2) (C := RX3) (T := TX3) (N := 3) hx hb hts kX3_run_2 tyX3 tyX3_ok nmX3 hown hK hP hD hS 2 rfl rfl 2 (by decide) (hts _ kX3_run_9) (fun _ h9 => h9) rfl (tyX3_ok 2 (by decide)) rfl rfl (Nat.le_of_ble_eq_true rfl) dX3_run_33 (fun H locs hP hD hS => ?_)
  have hP : va_P (dC, dI) vwCl [(h_p1, .inr (1, fX1 h_p1_surfaces h_p1_cliffs h_p1_boulders h_p1_scratches h_p1_numbers h_p1_facts h_p1_signs h_p1_areas h_p1_heights p1_ridges)), (h_p1_areas, .inl (cI, 20, .inl p1_areas)), (h_t, .inr (3, fX3 h_t_left (0 : Int32) (0 : Int32))), (h_t_left, .inl (cI, 20, .inl y4)), (h_p1_numbers, .inl (cI, 6, .inl p1_numbers))] H := hP
  have hD : va_D A [(h_p1, .inr (1, fX1 h_p1_surfaces h_p1_cliffs h_p1_boulders h_p1_scratches h_p1_numbers h_p1_facts h_p1_signs h_p1_areas h_p1_heights p1_ridges)), (h_p1_areas, .inl (cI, 20, .inl p1_areas)), (h_t, .inr (3, fX3 h_t_left (0 : Int32) (0 : Int32))), (h_t_left, .inl (cI, 20, .inl y4)), (h_p1_numbers, .inl (cI, 6, .inl p1_numbers))] := hD
  refine lv_iload_n hx hb dX3_run_36 rfl (lv_at hl 3 rfl) ?_
  refine lv_bipush (v := (20 : Int32)) hx hb dX3_run_37 (by decide) ?_
  refine va_mmin hx hb (hml.trans hl.1.symm) hown (hts _ kX3_run_10) (hts _ kX3_run_11) (hts _ kX3_run_12) (hts _ kX3_run_13) (Nat.le_of_ble_eq_true rfl) (Nat.le_of_ble_eq_true rfl) (Nat.zero_le _) (Nat.zero_le _) dX3_run_39 ?_
  refine lv_iconst (v := (1 : Int32)) hx hb dX3_run_42 (by decide) ?_
  refine lv_isub hx hb dX3_run_43 ?_
  obtain ⟨x6, e7, hf⟩ := nm_some hf
  refine lv_tope e7 ?_
  refine lv_istore (lv' := [(5, .int x6), (4, .int r1), (0, .ref h_t), (1, .ref h_p1), (2, .int p2), (3, .int p3)]) hx hb dX3_run_44 hl (by decide) rfl (fun ls hl => ?_)
  have L54 : ∀ (fu37 : Nat) (y31 : Nat → Int32) (x32 : Int32) (x33 : Int32) (x34 : Int32) (x35 : Int32) (y28 : Nat → Int32) (x29 : Int32) (x30 : Int32), f_X3_run_L1 p3 p1_numbers fu37 y31 x32 x33 x34 x35 = some (y28, x29, x30) → (∀ (H : Heap) (locs : List Loc), va_P (dC, dI) vwCl [(h_p1, .inr (1, fX1 h_p1_surfaces h_p1_cliffs h_p1_boulders h_p1_scratches h_p1_numbers h_p1_facts h_p1_signs h_p1_areas h_p1_heights p1_ridges)), (h_p1_areas, .inl (cI, 20, .inl p1_areas)), (h_t, .inr (3, fX3 h_t_left x29 x30)), (h_t_left, .inl (cI, 20, .inl y28)), (h_p1_numbers, .inl (cI, 6, .inl p1_numbers))] H → va_D A [(h_p1, .inr (1, fX1 h_p1_surfaces h_p1_cliffs h_p1_boulders h_p1_scratches h_p1_numbers h_p1_facts h_p1_signs h_p1_areas h_p1_heights p1_ridges)), (h_p1_areas, .inl (cI, 20, .inl p1_areas)), (h_t, .inr (3, fX3 h_t_left x29 x30)), (h_t_left, .inl (cI, 20, .inl y28)), (h_p1_numbers, .inl (cI, 6, .inl p1_numbers))] → va_S A s.heap H locs → ∀ ls : Array Slot, lv_has ls 7 [] → W p l e rmX3_run s m args below meth c H locs 0 0 Q (F0 m 132 ls [])) → ∀ (H : Heap) (locs : List Loc), va_P (dC, dI) vwCl [(h_p1, .inr (1, fX1 h_p1_surfaces h_p1_cliffs h_p1_boulders h_p1_scratches h_p1_numbers h_p1_facts h_p1_signs h_p1_areas h_p1_heights p1_ridges)), (h_p1_areas, .inl (cI, 20, .inl p1_areas)), (h_t, .inr (3, fX3 h_t_left x32 x33)), (h_t_left, .inl (cI, 20, .inl y31)), (h_p1_numbers, .inl (cI, 6, .inl p1_numbers))] H → va_D A [(h_p1, .inr (1, fX1 h_p1_surfaces h_p1_cliffs h_p1_boulders h_p1_scratches h_p1_numbers h_p1_facts h_p1_signs h_p1_areas h_p1_heights p1_ridges)), (h_p1_areas, .inl (cI, 20, .inl p1_areas)), (h_t, .inr (3, fX3 h_t_left x32 x33)), (h_t_left, .inl (cI, 20, .inl y31)), (h_p1_numbers, .inl (cI, 6, .inl p1_numbers))] → va_S A s.heap H locs → ∀ ls : Array Slot, lv_has ls 7 [(0, .ref h_t), (1, .ref h_p1), (3, .int p3), (4, .int x34), (5, .int x35)] → W p l e rmX3_run s m args below meth c H locs 0 0 Q (F0 m 46 ls []) := by
    intro fu37
    induction fu37 with
    | zero =>
      intro y31 x32 x33 x34 x35 y28 x29 x30 hf
      unfold f_X3_run_L1 at hf
      exact none_ne hf
    | succ fu37 ih36 =>
      intro y31 x32 x33 x34 x35 y28 x29 x30 hf hX38 H locs hP hD hS ls hl
      unfold f_X3_run_L1 at hf
      refine lv_iload hx hb dX3_run_46 (lv_at hl 3 rfl) ?_
      refine lv_if_le (tgt := 132) hx hb dX3_run_48 (by decide) (fun c39 => ?_) (fun c39 => ?_)
      · replace hf := ifp c39 hf
        obtain ⟨rfl, rfl, rfl⟩ := inj3 hf
        exact hX38 _ _ hP hD hS _ (lv_sub hl [] rfl)
      · replace hf := ifn c39 hf
        refine lv_aload_n hx hb dX3_run_51 rfl (lv_at hl 0 rfl) ?_
        refine va_get (D := (dC, dI)) (ci := 3) (v := .int x32) (C := RX3) (T := TX3) (N := 3) hx hb hts kX3_run_2 hown hK hP 2 rfl rfl 1 (by decide) (hts _ kX3_run_8) (fun _ h9 => h9) rfl dX3_run_52 ?_
        refine lv_sipush (v := (1000 : Int32)) hx hb dX3_run_55 (by decide) ?_
        refine lv_icmp_ge (tgt := 132) hx hb dX3_run_58 (by decide) (fun c40 => ?_) (fun c40 => ?_)
        · replace hf := ifp c40 hf
          obtain ⟨rfl, rfl, rfl⟩ := inj3 hf
          exact hX38 _ _ hP hD hS _ (lv_sub hl [] rfl)
        · replace hf := ifn c40 hf
          refine lv_aload_n hx hb dX3_run_61 rfl (lv_at hl 0 rfl) ?_
          refine lv_iload hx hb dX3_run_62 (lv_at hl 4 rfl) ?_
          refine lv_iload_n hx hb dX3_run_64 rfl (lv_at hl 2 rfl) ?_
          obtain ⟨r41, hg42, hf⟩ := bd1_some hf
          refine CM_callV (C := RX3) (As := [.int x35, .int p3]) (rest := []) (wc := [(h_t, .inr (3, fX3 h_t_left x32 x33)), (h_t_left, .inl (cI, 20, .inl y31))]) (w1 := [(h_t, .inr (3, fX3 h_t_left x32 x33)), (h_t_left, .inl (cI, 20, .inl y31))]) (wr := [(h_p1, .inr (1, fX1 h_p1_surfaces h_p1_cliffs h_p1_boulders h_p1_scratches h_p1_numbers h_p1_facts h_p1_signs h_p1_areas h_p1_heights p1_ridges)), (h_p1_areas, .inl (cI, 20, .inl p1_areas)), (h_p1_numbers, .inl (cI, 6, .inl p1_numbers))]) (wo := [(h_p1, .inr (1, fX1 h_p1_surfaces h_p1_cliffs h_p1_boulders h_p1_scratches h_p1_numbers h_p1_facts h_p1_signs h_p1_areas h_p1_heights p1_ridges)), (h_p1_areas, .inl (cI, 20, .inl p1_areas)), (h_t, .inr (3, fX3 h_t_left x32 x33)), (h_t_left, .inl (cI, 20, .inl y31)), (h_p1_numbers, .inl (cI, 6, .inl p1_numbers))]) (v := (some (.int r41))) ⟨hx, hb, hml, hown, hts⟩ (c_X3_highestWithSomething l dC dI cI cZ te h_t h_t_left x32 x33 y31 x35 p3 r41 hg42) (cwV 2 hts gX3_run_X3_highestWithSomething rfl rfl rfl (by decide +kernel) ⟨Nat.le_of_ble_eq_true rfl, Nat.le_of_ble_eq_true rfl⟩) (kS_env te) hK hP hD hS hA hE [2, 3] [0, 1, 4] [0, 1, 3, 4, 2] rfl rfl (by decide) (by decide) (by decide) (by decide) rfl 2 3 rfl rfl rfl rfl hl.1 rfl (Nat.le_of_ble_eq_true rfl) dX3_run_65 ⟨Nat.zero_le _, Nat.zero_le _⟩ (fun H locs hP hD hS => ?_)
          show W p l e rmX3_run s m args below meth c H locs 0 0 Q (F0 m 68 ls [.int r41])
          refine lv_istore (lv' := [(5, .int r41), (0, .ref h_t), (1, .ref h_p1), (3, .int p3), (4, .int x34)]) hx hb dX3_run_68 hl (by decide) rfl (fun ls hl => ?_)
          refine lv_iload hx hb dX3_run_70 (lv_at hl 4 rfl) ?_
          refine lv_aload_n hx hb dX3_run_72 rfl (lv_at hl 2 rfl) ?_
          refine va_get (D := (dC, dI)) (ci := 1) (v := .ref h_p1_numbers) (C := RX1) (T := TX1) (N := 10) hx hb hts kX3_run_0 hown hK hP 0 rfl rfl 4 (by decide) (hts _ kX3_run_14) (fun _ h9 => h9) rfl dX3_run_73 ?_
          refine lv_iconst (v := (2 : Int32)) hx hb dX3_run_76 (by decide) ?_
          obtain ⟨g43, hf⟩ := chk_some hf
          refine va_iald hx hb hK hP 4 0 rfl rfl (gin_in g43) dX3_run_77 ?_
          refine lv_iload hx hb dX3_run_78 (lv_at hl 0 rfl) ?_
          refine lv_iload_n hx hb dX3_run_80 rfl (lv_at hl 3 rfl) ?_
          refine lv_isub hx hb dX3_run_81 ?_
          refine lv_iconst (v := (1 : Int32)) hx hb dX3_run_82 (by decide) ?_
          refine lv_iadd hx hb dX3_run_83 ?_
          refine lv_imul hx hb dX3_run_84 ?_
          refine va_mmin hx hb (hml.trans hl.1.symm) hown (hts _ kX3_run_10) (hts _ kX3_run_11) (hts _ kX3_run_12) (hts _ kX3_run_13) (Nat.le_of_ble_eq_true rfl) (Nat.le_of_ble_eq_true rfl) (Nat.zero_le _) (Nat.zero_le _) dX3_run_85 ?_
          obtain ⟨x44, e45, hf⟩ := nm_some hf
          refine lv_tope e45 ?_
          refine lv_istore (lv' := [(6, .int x44), (5, .int r41), (0, .ref h_t), (1, .ref h_p1), (3, .int p3), (4, .int x34)]) hx hb dX3_run_88 hl (by decide) rfl (fun ls hl => ?_)
          refine lv_aload_n hx hb dX3_run_90 rfl (lv_at hl 2 rfl) ?_
          refine lv_iload hx hb dX3_run_91 (lv_at hl 1 rfl) ?_
          refine lv_iload_n hx hb dX3_run_93 rfl (lv_at hl 4 rfl) ?_
          refine lv_iload hx hb dX3_run_94 (lv_at hl 0 rfl) ?_
          obtain ⟨y46, hg47, hf⟩ := bd1_some hf
          refine CM_callV (C := RX3) (As := [.int r41, .int p3, .int x44]) (rest := []) (wc := [(h_t, .inr (3, fX3 h_t_left x32 x33)), (h_t_left, .inl (cI, 20, .inl y31))]) (w1 := [(h_t, .inr (3, fX3 h_t_left x32 x33)), (h_t_left, .inl (cI, 20, .inl y46))]) (wr := [(h_p1, .inr (1, fX1 h_p1_surfaces h_p1_cliffs h_p1_boulders h_p1_scratches h_p1_numbers h_p1_facts h_p1_signs h_p1_areas h_p1_heights p1_ridges)), (h_p1_areas, .inl (cI, 20, .inl p1_areas)), (h_p1_numbers, .inl (cI, 6, .inl p1_numbers))]) (wo := [(h_p1, .inr (1, fX1 h_p1_surfaces h_p1_cliffs h_p1_boulders h_p1_scratches h_p1_numbers h_p1_facts h_p1_signs h_p1_areas h_p1_heights p1_ridges)), (h_p1_areas, .inl (cI, 20, .inl p1_areas)), (h_t, .inr (3, fX3 h_t_left x32 x33)), (h_t_left, .inl (cI, 20, .inl y46)), (h_p1_numbers, .inl (cI, 6, .inl p1_numbers))]) (v := (none)) ⟨hx, hb, hml, hown, hts⟩ (c_X3_drain l dC dI cI cZ te h_t h_t_left x32 x33 y31 r41 p3 x44 y46 hg47) (cwV 3 hts gX3_run_X3_drain rfl rfl rfl (by decide +kernel) ⟨Nat.le_of_ble_eq_true rfl, Nat.le_of_ble_eq_true rfl⟩) (kS_env te) hK hP hD hS hA hE [2, 3] [0, 1, 4] [0, 1, 3, 4, 2] rfl rfl (by decide) (by decide) (by decide) (by decide) rfl 2 3 rfl rfl rfl rfl hl.1 rfl (Nat.le_of_ble_eq_true rfl) dX3_run_96 ⟨Nat.zero_le _, Nat.zero_le _⟩ (fun H locs hP hD hS => ?_)
          show W p l e rmX3_run s m args below meth c H locs 0 0 Q (F0 m 99 ls [])
          refine lv_iload hx hb dX3_run_99 (lv_at hl 5 rfl) ?_
          refine lv_iload hx hb dX3_run_101 (lv_at hl 0 rfl) ?_
          refine lv_isub hx hb dX3_run_103 ?_
          obtain ⟨x48, e49, hf⟩ := nm_some hf
          refine lv_tope e49 ?_
          refine lv_istore (lv' := [(4, .int x48), (6, .int x44), (5, .int r41), (0, .ref h_t), (1, .ref h_p1), (3, .int p3)]) hx hb dX3_run_104 hl (by decide) rfl (fun ls hl => ?_)
          refine lv_aload_n hx hb dX3_run_106 rfl (lv_at hl 3 rfl) ?_
          refine lv_aload_n hx hb dX3_run_107 rfl (lv_at hl 3 rfl) ?_
          refine va_get (D := (dC, dI)) (ci := 3) (v := .int x33) (C := RX3) (T := TX3) (N := 3) hx hb hts kX3_run_2 hown hK hP 2 rfl rfl 2 (by decide) (hts _ kX3_run_9) (fun _ h9 => h9) rfl dX3_run_108 ?_
          refine lv_iload hx hb dX3_run_111 (lv_at hl 1 rfl) ?_
          refine va_mmax hx hb (hml.trans hl.1.symm) hown (hts _ kX3_run_15) (hts _ kX3_run_16) (hts _ kX3_run_12) (hts _ kX3_run_17) (Nat.le_of_ble_eq_true rfl) (Nat.le_of_ble_eq_true rfl) (Nat.zero_le _) (Nat.zero_le _) dX3_run_113 ?_
          obtain ⟨x50, e51, hf⟩ := nm_some hf
          refine lv_tope e51 ?_
          refine va_put (D := (dC, dI)) (ci := 3) (v := .int x50) (ty := tyX3 2) (C := RX3) (T := TX3) (N := 3) hx hb hts kX3_run_2 tyX3 tyX3_ok nmX3 hown hK hP hD hS 2 rfl rfl 2 (by decide) (hts _ kX3_run_9) (fun _ h9 => h9) rfl (tyX3_ok 2 (by decide)) rfl rfl (Nat.le_of_ble_eq_true rfl) dX3_run_116 (fun H locs hP hD hS => ?_)
          have hP : va_P (dC, dI) vwCl [(h_p1, .inr (1, fX1 h_p1_surfaces h_p1_cliffs h_p1_boulders h_p1_scratches h_p1_numbers h_p1_facts h_p1_signs h_p1_areas h_p1_heights p1_ridges)), (h_p1_areas, .inl (cI, 20, .inl p1_areas)), (h_t, .inr (3, fX3 h_t_left x32 x50)), (h_t_left, .inl (cI, 20, .inl y46)), (h_p1_numbers, .inl (cI, 6, .inl p1_numbers))] H := hP
          have hD : va_D A [(h_p1, .inr (1, fX1 h_p1_surfaces h_p1_cliffs h_p1_boulders h_p1_scratches h_p1_numbers h_p1_facts h_p1_signs h_p1_areas h_p1_heights p1_ridges)), (h_p1_areas, .inl (cI, 20, .inl p1_areas)), (h_t, .inr (3, fX3 h_t_left x32 x50)), (h_t_left, .inl (cI, 20, .inl y46)), (h_p1_numbers, .inl (cI, 6, .inl p1_numbers))] := hD
          refine lv_aload_n hx hb dX3_run_119 rfl (lv_at hl 3 rfl) ?_
          refine lv_dup hx hb dX3_run_120 rfl ?_
          refine va_get (D := (dC, dI)) (ci := 3) (v := .int x32) (C := RX3) (T := TX3) (N := 3) hx hb hts kX3_run_2 hown hK hP 2 rfl rfl 1 (by decide) (hts _ kX3_run_8) (fun _ h9 => h9) rfl dX3_run_121 ?_
          refine lv_iconst (v := (1 : Int32)) hx hb dX3_run_124 (by decide) ?_
          refine lv_iadd hx hb dX3_run_125 ?_
          obtain ⟨x52, e53, hf⟩ := nm_some hf
          refine lv_tope e53 ?_
          refine va_put (D := (dC, dI)) (ci := 3) (v := .int x52) (ty := tyX3 1) (C := RX3) (T := TX3) (N := 3) hx hb hts kX3_run_2 tyX3 tyX3_ok nmX3 hown hK hP hD hS 2 rfl rfl 1 (by decide) (hts _ kX3_run_8) (fun _ h9 => h9) rfl (tyX3_ok 1 (by decide)) rfl rfl (Nat.le_of_ble_eq_true rfl) dX3_run_126 (fun H locs hP hD hS => ?_)
          have hP : va_P (dC, dI) vwCl [(h_p1, .inr (1, fX1 h_p1_surfaces h_p1_cliffs h_p1_boulders h_p1_scratches h_p1_numbers h_p1_facts h_p1_signs h_p1_areas h_p1_heights p1_ridges)), (h_p1_areas, .inl (cI, 20, .inl p1_areas)), (h_t, .inr (3, fX3 h_t_left x52 x50)), (h_t_left, .inl (cI, 20, .inl y46)), (h_p1_numbers, .inl (cI, 6, .inl p1_numbers))] H := hP
          have hD : va_D A [(h_p1, .inr (1, fX1 h_p1_surfaces h_p1_cliffs h_p1_boulders h_p1_scratches h_p1_numbers h_p1_facts h_p1_signs h_p1_areas h_p1_heights p1_ridges)), (h_p1_areas, .inl (cI, 20, .inl p1_areas)), (h_t, .inr (3, fX3 h_t_left x52 x50)), (h_t_left, .inl (cI, 20, .inl y46)), (h_p1_numbers, .inl (cI, 6, .inl p1_numbers))] := hD
          refine lv_goto (tgt := 46) hx hb dX3_run_129 (by decide) ?_
          exact ih36 _ _ _ _ _ _ _ _ hf hX38 _ _ hP hD hS _ (lv_sub hl [3, 4, 5, 0, 2] rfl)
  obtain ⟨y28, x29, x30, hg, hf⟩ := bd3_some hf
  refine L54 FU _ _ _ _ _ _ _ _ hg ?_ _ _ hP hD hS _ (lv_sub hl [2, 3, 5, 1, 0] rfl)
  · intro H locs hP hD hS ls hl
    obtain ⟨rfl, rfl, rfl⟩ := inj3 hf
    subst hQ
    exact CM_vret hx hb hr hlocks hAe hP hD hS dX3_run_132
def rmX4_add : Room := { frames := 0, cells := 0, slots := 0, locals := 0 }
set_option maxRecDepth 20000 in
theorem kX4_add_0 : ∀ w ∈ u_ws RX4 TX4 3, w ∈ wsX4_add := by decide +kernel
set_option maxRecDepth 20000 in
theorem kX4_add_1 : Cond.fieldLink RX4 28 "StoneRiver$Rows" "size" "I" ∈ wsX4_add := by decide +kernel
set_option maxRecDepth 20000 in
theorem kX4_add_2 : Cond.fieldLink RX4 18 "StoneRiver$Rows" "limit" "I" ∈ wsX4_add := by decide +kernel
set_option maxRecDepth 20000 in
theorem kX4_add_3 : Cond.fieldLink RX4 24 "StoneRiver$Rows" "cells" "[I" ∈ wsX4_add := by decide +kernel
set_option maxHeartbeats 4000000 in
set_option maxRecDepth 100000 in
theorem c_X4_add (l : Launch) (dC : Nat → ClassId) (dI : Nat → Nat → Nat) (cI cZ : ClassId) (te : Nat → Nat) (h_t : Nat) (h_t_cells : Nat) (t_limit : Int32) (t_size : Int32) (n_t_cells : Nat) (t_cells : Nat → Int32) (p1 : Int32) (p2 : Int32) (p3 : Int32) (p4 : Int32) (p5 : Int32) (o0 : Int32) (o1 : Int32) (o2 : Nat → Int32) (hf : f_X4_add t_limit t_size n_t_cells t_cells p1 p2 p3 p4 p5 = some (o0, o1, o2)) : CM l yX4_add wsX4_add rmX4_add (kS te) dC dI cI cZ [.ref h_t, .int p1, .int p2, .int p3, .int p4, .int p5] [(h_t, .inr (4, fX4 t_limit h_t_cells t_size)), (h_t_cells, .inl (cI, n_t_cells, .inl t_cells))] [(h_t, .inr (4, fX4 t_limit h_t_cells o1)), (h_t_cells, .inl (cI, n_t_cells, .inl o2))] (some (.int o0)) := by
  refine CM_of (cc := cX4_add) (maxL := 7) (ret := (some .int)) (by decide +kernel) rfl (Nat.le_of_ble_eq_true rfl) ?_
  intro p e s m args below meth c A Q hx hb hr hml hown hts hlocks hA hK hP hD hS hE hQ hAe ls hl
  have hown : s.vm.findClass RX4 = some m.cls := hown
  have hl : lv_has ls 7 [(0, .ref h_t), (1, .int p1), (2, .int p2), (3, .int p3), (4, .int p4), (5, .int p5)] := hl
  unfold f_X4_add at hf
  refine lv_aload_n hx hb dX4_add_0 rfl (lv_at hl 0 rfl) ?_
  refine va_get (D := (dC, dI)) (ci := 4) (v := .int t_size) (C := RX4) (T := TX4) (N := 3) hx hb hts kX4_add_0 hown hK hP 0 rfl rfl 2 (by decide) (hts _ kX4_add_1) (fun _ h9 => h9) rfl dX4_add_1 ?_
  refine lv_aload_n hx hb dX4_add_4 rfl (lv_at hl 0 rfl) ?_
  refine va_get (D := (dC, dI)) (ci := 4) (v := .int t_limit) (C := RX4) (T := TX4) (N := 3) hx hb hts kX4_add_0 hown hK hP 0 rfl rfl 0 (by decide) (hts _ kX4_add_2) (fun _ h9 => h9) rfl dX4_add_5 ?_
  refine lv_icmp_lt (tgt := 14) hx hb dX4_add_8 (by decide) (fun c1 => ?_) (fun c1 => ?_)
  · replace hf := ifp c1 hf
    refine lv_iconst (v := (5 : Int32)) hx hb dX4_add_14 (by decide) ?_
    refine lv_aload_n hx hb dX4_add_15 rfl (lv_at hl 0 rfl) ?_
    refine va_get (D := (dC, dI)) (ci := 4) (v := .int t_size) (C := RX4) (T := TX4) (N := 3) hx hb hts kX4_add_0 hown hK hP 0 rfl rfl 2 (by decide) (hts _ kX4_add_1) (fun _ h9 => h9) rfl dX4_add_16 ?_
    refine lv_imul hx hb dX4_add_19 ?_
    obtain ⟨x2, e3, hf⟩ := nm_some hf
    refine lv_tope e3 ?_
    refine lv_istore (lv' := [(6, .int x2), (0, .ref h_t), (1, .int p1), (2, .int p2), (3, .int p3), (4, .int p4), (5, .int p5)]) hx hb dX4_add_20 hl (by decide) rfl (fun ls hl => ?_)
    refine lv_aload_n hx hb dX4_add_22 rfl (lv_at hl 1 rfl) ?_
    refine va_get (D := (dC, dI)) (ci := 4) (v := .ref h_t_cells) (C := RX4) (T := TX4) (N := 3) hx hb hts kX4_add_0 hown hK hP 0 rfl rfl 1 (by decide) (hts _ kX4_add_3) (fun _ h9 => h9) rfl dX4_add_23 ?_
    refine lv_iload hx hb dX4_add_26 (lv_at hl 0 rfl) ?_
    refine lv_iload_n hx hb dX4_add_28 rfl (lv_at hl 2 rfl) ?_
    obtain ⟨g4, hf⟩ := chk_some hf
    obtain ⟨y5, e6, hf⟩ := nm_some hf
    refine va_iast hx hb hK hP hD hS 1 0 rfl rfl (gin_in g4) dX4_add_29 (fun H locs hP hD hS => ?_)
    have hP : va_P (dC, dI) vwCl [(h_t, .inr (4, fX4 t_limit h_t_cells t_size)), (h_t_cells, .inl (cI, n_t_cells, .inl y5))] H := by rw [e6]; exact hP
    have hD : va_D A [(h_t, .inr (4, fX4 t_limit h_t_cells t_size)), (h_t_cells, .inl (cI, n_t_cells, .inl y5))] := by rw [e6]; exact hD
    refine lv_aload_n hx hb dX4_add_30 rfl (lv_at hl 1 rfl) ?_
    refine va_get (D := (dC, dI)) (ci := 4) (v := .ref h_t_cells) (C := RX4) (T := TX4) (N := 3) hx hb hts kX4_add_0 hown hK hP 0 rfl rfl 1 (by decide) (hts _ kX4_add_3) (fun _ h9 => h9) rfl dX4_add_31 ?_
    refine lv_iload hx hb dX4_add_34 (lv_at hl 0 rfl) ?_
    refine lv_iconst (v := (1 : Int32)) hx hb dX4_add_36 (by decide) ?_
    refine lv_iadd hx hb dX4_add_37 ?_
    refine lv_iload_n hx hb dX4_add_38 rfl (lv_at hl 3 rfl) ?_
    obtain ⟨g7, hf⟩ := chk_some hf
    obtain ⟨y8, e9, hf⟩ := nm_some hf
    refine va_iast hx hb hK hP hD hS 1 0 rfl rfl (gin_in g7) dX4_add_39 (fun H locs hP hD hS => ?_)
    have hP : va_P (dC, dI) vwCl [(h_t, .inr (4, fX4 t_limit h_t_cells t_size)), (h_t_cells, .inl (cI, n_t_cells, .inl y8))] H := by rw [e9]; exact hP
    have hD : va_D A [(h_t, .inr (4, fX4 t_limit h_t_cells t_size)), (h_t_cells, .inl (cI, n_t_cells, .inl y8))] := by rw [e9]; exact hD
    refine lv_aload_n hx hb dX4_add_40 rfl (lv_at hl 1 rfl) ?_
    refine va_get (D := (dC, dI)) (ci := 4) (v := .ref h_t_cells) (C := RX4) (T := TX4) (N := 3) hx hb hts kX4_add_0 hown hK hP 0 rfl rfl 1 (by decide) (hts _ kX4_add_3) (fun _ h9 => h9) rfl dX4_add_41 ?_
    refine lv_iload hx hb dX4_add_44 (lv_at hl 0 rfl) ?_
    refine lv_iconst (v := (2 : Int32)) hx hb dX4_add_46 (by decide) ?_
    refine lv_iadd hx hb dX4_add_47 ?_
    refine lv_iload_n hx hb dX4_add_48 rfl (lv_at hl 4 rfl) ?_
    obtain ⟨g10, hf⟩ := chk_some hf
    obtain ⟨y11, e12, hf⟩ := nm_some hf
    refine va_iast hx hb hK hP hD hS 1 0 rfl rfl (gin_in g10) dX4_add_49 (fun H locs hP hD hS => ?_)
    have hP : va_P (dC, dI) vwCl [(h_t, .inr (4, fX4 t_limit h_t_cells t_size)), (h_t_cells, .inl (cI, n_t_cells, .inl y11))] H := by rw [e12]; exact hP
    have hD : va_D A [(h_t, .inr (4, fX4 t_limit h_t_cells t_size)), (h_t_cells, .inl (cI, n_t_cells, .inl y11))] := by rw [e12]; exact hD
    refine lv_aload_n hx hb dX4_add_50 rfl (lv_at hl 1 rfl) ?_
    refine va_get (D := (dC, dI)) (ci := 4) (v := .ref h_t_cells) (C := RX4) (T := TX4) (N := 3) hx hb hts kX4_add_0 hown hK hP 0 rfl rfl 1 (by decide) (hts _ kX4_add_3) (fun _ h9 => h9) rfl dX4_add_51 ?_
    refine lv_iload hx hb dX4_add_54 (lv_at hl 0 rfl) ?_
    refine lv_iconst (v := (3 : Int32)) hx hb dX4_add_56 (by decide) ?_
    refine lv_iadd hx hb dX4_add_57 ?_
    refine lv_iload hx hb dX4_add_58 (lv_at hl 5 rfl) ?_
    obtain ⟨g13, hf⟩ := chk_some hf
    obtain ⟨y14, e15, hf⟩ := nm_some hf
    refine va_iast hx hb hK hP hD hS 1 0 rfl rfl (gin_in g13) dX4_add_60 (fun H locs hP hD hS => ?_)
    have hP : va_P (dC, dI) vwCl [(h_t, .inr (4, fX4 t_limit h_t_cells t_size)), (h_t_cells, .inl (cI, n_t_cells, .inl y14))] H := by rw [e15]; exact hP
    have hD : va_D A [(h_t, .inr (4, fX4 t_limit h_t_cells t_size)), (h_t_cells, .inl (cI, n_t_cells, .inl y14))] := by rw [e15]; exact hD
    refine lv_aload_n hx hb dX4_add_61 rfl (lv_at hl 1 rfl) ?_
    refine va_get (D := (dC, dI)) (ci := 4) (v := .ref h_t_cells) (C := RX4) (T := TX4) (N := 3) hx hb hts kX4_add_0 hown hK hP 0 rfl rfl 1 (by decide) (hts _ kX4_add_3) (fun _ h9 => h9) rfl dX4_add_62 ?_
    refine lv_iload hx hb dX4_add_65 (lv_at hl 0 rfl) ?_
    refine lv_iconst (v := (4 : Int32)) hx hb dX4_add_67 (by decide) ?_
    refine lv_iadd hx hb dX4_add_68 ?_
    refine lv_iload hx hb dX4_add_69 (lv_at hl 6 rfl) ?_
    obtain ⟨g16, hf⟩ := chk_some hf
    obtain ⟨y17, e18, hf⟩ := nm_some hf
    refine va_iast hx hb hK hP hD hS 1 0 rfl rfl (gin_in g16) dX4_add_71 (fun H locs hP hD hS => ?_)
    have hP : va_P (dC, dI) vwCl [(h_t, .inr (4, fX4 t_limit h_t_cells t_size)), (h_t_cells, .inl (cI, n_t_cells, .inl y17))] H := by rw [e18]; exact hP
    have hD : va_D A [(h_t, .inr (4, fX4 t_limit h_t_cells t_size)), (h_t_cells, .inl (cI, n_t_cells, .inl y17))] := by rw [e18]; exact hD
    refine lv_aload_n hx hb dX4_add_72 rfl (lv_at hl 1 rfl) ?_
    refine lv_dup hx hb dX4_add_73 rfl ?_
    refine va_get (D := (dC, dI)) (ci := 4) (v := .int t_size) (C := RX4) (T := TX4) (N := 3) hx hb hts kX4_add_0 hown hK hP 0 rfl rfl 2 (by decide) (hts _ kX4_add_1) (fun _ h9 => h9) rfl dX4_add_74 ?_
    refine lv_dup_x1 hx hb dX4_add_77 rfl rfl ?_
    refine lv_iconst (v := (1 : Int32)) hx hb dX4_add_78 (by decide) ?_
    refine lv_iadd hx hb dX4_add_79 ?_
    obtain ⟨x19, e20, hf⟩ := nm_some hf
    refine lv_tope e20 ?_
    refine va_put (D := (dC, dI)) (ci := 4) (v := .int x19) (ty := tyX4 2) (C := RX4) (T := TX4) (N := 3) hx hb hts kX4_add_0 tyX4 tyX4_ok nmX4 hown hK hP hD hS 0 rfl rfl 2 (by decide) (hts _ kX4_add_1) (fun _ h9 => h9) rfl (tyX4_ok 2 (by decide)) rfl rfl (Nat.le_of_ble_eq_true rfl) dX4_add_80 (fun H locs hP hD hS => ?_)
    have hP : va_P (dC, dI) vwCl [(h_t, .inr (4, fX4 t_limit h_t_cells x19)), (h_t_cells, .inl (cI, n_t_cells, .inl y17))] H := hP
    have hD : va_D A [(h_t, .inr (4, fX4 t_limit h_t_cells x19)), (h_t_cells, .inl (cI, n_t_cells, .inl y17))] := hD
    obtain ⟨rfl, rfl, rfl⟩ := inj3 hf
    subst hQ
    exact CM_iret hx hb hr rfl hlocks hAe hP hD hS dX4_add_83
  · replace hf := ifn c1 hf
    refine lv_bipush (v := (-4 : Int32)) hx hb dX4_add_11 (by decide) ?_
    obtain ⟨rfl, rfl, rfl⟩ := inj3 hf
    subst hQ
    exact CM_iret hx hb hr rfl hlocks hAe hP hD hS dX4_add_13
def rmX7_surfaceAt : Room := { frames := 0, cells := 0, slots := 0, locals := 0 }
set_option maxHeartbeats 4000000 in
set_option maxRecDepth 100000 in
theorem c_X7_surfaceAt (l : Launch) (dC : Nat → ClassId) (dI : Nat → Nat → Nat) (cI cZ : ClassId) (te : Nat → Nat) (h_p1 : Nat) (n_p1 : Nat) (p1 : Nat → Int32) (p2 : Int32) (p3 : Int32) (o0 : Int32) (hf : f_X7_surfaceAt n_p1 p1 p2 p3 = some o0) : CM l yX7_surfaceAt wsX7_surfaceAt rmX7_surfaceAt (kS te) dC dI cI cZ [.ref h_p1, .int p2, .int p3] [(h_p1, .inl (cI, n_p1, .inl p1))] [(h_p1, .inl (cI, n_p1, .inl p1))] (some (.int o0)) := by
  refine CM_of (cc := cX7_surfaceAt) (maxL := 4) (ret := (some .int)) (by decide +kernel) rfl (Nat.le_of_ble_eq_true rfl) ?_
  intro p e s m args below meth c A Q hx hb hr hml hown hts hlocks hA hK hP hD hS hE hQ hAe ls hl
  have hown : s.vm.findClass RX7 = some m.cls := hown
  have hl : lv_has ls 4 [(0, .ref h_p1), (1, .int p2), (2, .int p3)] := hl
  unfold f_X7_surfaceAt at hf
  refine lv_bipush (v := (64 : Int32)) hx hb dX7_surfaceAt_0 (by decide) ?_
  refine lv_iload_n hx hb dX7_surfaceAt_2 rfl (lv_at hl 1 rfl) ?_
  refine lv_imul hx hb dX7_surfaceAt_3 ?_
  refine lv_iload_n hx hb dX7_surfaceAt_4 rfl (lv_at hl 2 rfl) ?_
  refine lv_iadd hx hb dX7_surfaceAt_5 ?_
  obtain ⟨x1, e2, hf⟩ := nm_some hf
  refine lv_tope e2 ?_
  refine lv_istore_n (lv' := [(3, .int x1), (0, .ref h_p1), (1, .int p2), (2, .int p3)]) hx hb dX7_surfaceAt_6 rfl hl (by decide) rfl (fun ls hl => ?_)
  refine lv_iload_n hx hb dX7_surfaceAt_7 rfl (lv_at hl 0 rfl) ?_
  refine lv_if_lt (tgt := 23) hx hb dX7_surfaceAt_8 (by decide) (fun c3 => ?_) (fun c3 => ?_)
  · replace hf := ifp c3 hf
    refine lv_iconst (v := (0 : Int32)) hx hb dX7_surfaceAt_23 (by decide) ?_
    obtain rfl := inj1 hf
    subst hQ
    exact CM_iret hx hb hr rfl hlocks hAe hP hD hS dX7_surfaceAt_24
  · replace hf := ifn c3 hf
    refine lv_iload_n hx hb dX7_surfaceAt_11 rfl (lv_at hl 0 rfl) ?_
    refine lv_aload_n hx hb dX7_surfaceAt_12 rfl (lv_at hl 1 rfl) ?_
    refine va_alen hx hb hK hP 0 0 rfl rfl (v := (Int32.ofNat n_p1)) rfl dX7_surfaceAt_13 ?_
    refine lv_icmp_ge (tgt := 23) hx hb dX7_surfaceAt_14 (by decide) (fun c4 => ?_) (fun c4 => ?_)
    · replace hf := ifp c4 hf
      refine lv_iconst (v := (0 : Int32)) hx hb dX7_surfaceAt_23 (by decide) ?_
      obtain rfl := inj1 hf
      subst hQ
      exact CM_iret hx hb hr rfl hlocks hAe hP hD hS dX7_surfaceAt_24
    · replace hf := ifn c4 hf
      refine lv_aload_n hx hb dX7_surfaceAt_17 rfl (lv_at hl 1 rfl) ?_
      refine lv_iload_n hx hb dX7_surfaceAt_18 rfl (lv_at hl 0 rfl) ?_
      obtain ⟨g5, hf⟩ := chk_some hf
      refine va_iald hx hb hK hP 0 0 rfl rfl (gin_in g5) dX7_surfaceAt_19 ?_
      refine lv_goto (tgt := 24) hx hb dX7_surfaceAt_20 (by decide) ?_
      obtain rfl := inj1 hf
      subst hQ
      exact CM_iret hx hb hr rfl hlocks hAe hP hD hS dX7_surfaceAt_24
def rmX7_placeBeside : Room := { frames := 0, cells := 0, slots := 0, locals := 0 }
set_option maxRecDepth 20000 in
theorem kX7_placeBeside_0 : Cond.fieldLink RX7 80 "StoneRiver$Valley" "ROW_STEP" "[I" ∈ wsX7_placeBeside := by decide +kernel
set_option maxRecDepth 20000 in
theorem kX7_placeBeside_1 : Cond.fieldLink RX7 83 "StoneRiver$Valley" "COLUMN_STEP" "[I" ∈ wsX7_placeBeside := by decide +kernel
set_option maxHeartbeats 4000000 in
set_option maxRecDepth 100000 in
theorem c_X7_placeBeside (l : Launch) (dC : Nat → ClassId) (dI : Nat → Nat → Nat) (cI cZ : ClassId) (te : Nat → Nat) (p1 : Int32) (p2 : Int32) (o0 : Int32) (hf : f_X7_placeBeside p1 p2 = some o0) : CM l yX7_placeBeside wsX7_placeBeside rmX7_placeBeside (kS te) dC dI cI cZ [.int p1, .int p2] [] [] (some (.int o0)) := by
  refine CM_of (cc := cX7_placeBeside) (maxL := 5) (ret := (some .int)) (by decide +kernel) rfl (Nat.le_of_ble_eq_true rfl) ?_
  intro p e s m args below meth c A Q hx hb hr hml hown hts hlocks hA hK hP hD hS hE hQ hAe ls hl
  have hown : s.vm.findClass RX7 = some m.cls := hown
  have hl : lv_has ls 5 [(0, .int p1), (1, .int p2)] := hl
  unfold f_X7_placeBeside at hf
  refine lv_iload_n hx hb dX7_placeBeside_0 rfl (lv_at hl 1 rfl) ?_
  refine lv_if_lt (tgt := 10) hx hb dX7_placeBeside_1 (by decide) (fun c1 => ?_) (fun c1 => ?_)
  · replace hf := ifp c1 hf
    refine lv_iconst (v := (-1 : Int32)) hx hb dX7_placeBeside_10 (by decide) ?_
    obtain rfl := inj1 hf
    subst hQ
    exact CM_iret hx hb hr rfl hlocks hAe hP hD hS dX7_placeBeside_11
  · replace hf := ifn c1 hf
    refine lv_iload_n hx hb dX7_placeBeside_4 rfl (lv_at hl 1 rfl) ?_
    refine lv_bipush (v := (8 : Int32)) hx hb dX7_placeBeside_5 (by decide) ?_
    refine lv_icmp_lt (tgt := 12) hx hb dX7_placeBeside_7 (by decide) (fun c2 => ?_) (fun c2 => ?_)
    · replace hf := ifp c2 hf
      refine lv_iload_n hx hb dX7_placeBeside_12 rfl (lv_at hl 0 rfl) ?_
      refine lv_bipush (v := (8 : Int32)) hx hb dX7_placeBeside_13 (by decide) ?_
      refine lv_idiv hx hb dX7_placeBeside_15 (by decide) ?_
      refine va_gets hx hb (C := "StoneRiver$Valley") (n := "ROW_STEP") (d := "[I") (kS_z0 hE) hS hown (hts _ kX7_placeBeside_0) (fun _ h9 => h9) dX7_placeBeside_16 ?_
      refine lv_iload_n hx hb dX7_placeBeside_19 rfl (lv_at hl 1 rfl) ?_
      obtain ⟨g3, hf⟩ := chk_some hf
      refine va_ti hx hb (kS_t0 hE) hS (gin_in g3) (v := .int (tb0 p2.toNatClampNeg)) rfl dX7_placeBeside_20 ?_
      refine lv_iadd hx hb dX7_placeBeside_21 ?_
      obtain ⟨x4, e5, hf⟩ := nm_some hf
      refine lv_tope e5 ?_
      refine lv_istore_n (lv' := [(2, .int x4), (0, .int p1), (1, .int p2)]) hx hb dX7_placeBeside_22 rfl hl (by decide) rfl (fun ls hl => ?_)
      refine lv_iload_n hx hb dX7_placeBeside_23 rfl (lv_at hl 1 rfl) ?_
      refine lv_bipush (v := (8 : Int32)) hx hb dX7_placeBeside_24 (by decide) ?_
      refine lv_irem hx hb dX7_placeBeside_26 (by decide) ?_
      refine va_gets hx hb (C := "StoneRiver$Valley") (n := "COLUMN_STEP") (d := "[I") (kS_z1 hE) hS hown (hts _ kX7_placeBeside_1) (fun _ h9 => h9) dX7_placeBeside_27 ?_
      refine lv_iload_n hx hb dX7_placeBeside_30 rfl (lv_at hl 2 rfl) ?_
      obtain ⟨g6, hf⟩ := chk_some hf
      refine va_ti hx hb (kS_t1 hE) hS (gin_in g6) (v := .int (tb1 p2.toNatClampNeg)) rfl dX7_placeBeside_31 ?_
      refine lv_iadd hx hb dX7_placeBeside_32 ?_
      obtain ⟨x7, e8, hf⟩ := nm_some hf
      refine lv_tope e8 ?_
      refine lv_istore_n (lv' := [(3, .int x7), (2, .int x4), (0, .int p1), (1, .int p2)]) hx hb dX7_placeBeside_33 rfl hl (by decide) rfl (fun ls hl => ?_)
      refine lv_iload_n hx hb dX7_placeBeside_34 rfl (lv_at hl 1 rfl) ?_
      obtain ⟨x9, hg, hf⟩ := bd1_some hf
      have J10 : ∀ (H : Heap) (locs : List Loc), va_P (dC, dI) vwCl [] H → va_D A [] → va_S A s.heap H locs → ∀ ls : Array Slot, lv_has ls 5 [(2, .int x4), (3, .int x7)] → W p l e rmX7_placeBeside s m args below meth c H locs 0 0 Q (F0 m 59 ls [.int x9]) := by
        intro H locs hP hD hS ls hl
        refine lv_istore (lv' := [(4, .int x9), (2, .int x4), (3, .int x7)]) hx hb dX7_placeBeside_59 hl (by decide) rfl (fun ls hl => ?_)
        refine lv_iload hx hb dX7_placeBeside_61 (lv_at hl 0 rfl) ?_
        refine lv_if_eq (tgt := 70) hx hb dX7_placeBeside_63 (by decide) (fun c11 => ?_) (fun c11 => ?_)
        · replace hf := ifp c11 hf
          refine lv_bipush (v := (8 : Int32)) hx hb dX7_placeBeside_70 (by decide) ?_
          refine lv_iload_n hx hb dX7_placeBeside_72 rfl (lv_at hl 1 rfl) ?_
          refine lv_imul hx hb dX7_placeBeside_73 ?_
          refine lv_iload_n hx hb dX7_placeBeside_74 rfl (lv_at hl 2 rfl) ?_
          refine lv_iadd hx hb dX7_placeBeside_75 ?_
          obtain rfl := inj1 hf
          subst hQ
          exact CM_iret hx hb hr rfl hlocks hAe hP hD hS dX7_placeBeside_76
        · replace hf := ifn c11 hf
          refine lv_iconst (v := (-1 : Int32)) hx hb dX7_placeBeside_66 (by decide) ?_
          refine lv_goto (tgt := 76) hx hb dX7_placeBeside_67 (by decide) ?_
          obtain rfl := inj1 hf
          subst hQ
          exact CM_iret hx hb hr rfl hlocks hAe hP hD hS dX7_placeBeside_76
      clear hf
      have hf := hg
      refine lv_if_lt (tgt := 54) hx hb dX7_placeBeside_35 (by decide) (fun c12 => ?_) (fun c12 => ?_)
      · replace hf := ifp c12 hf
        refine lv_iconst (v := (1 : Int32)) hx hb dX7_placeBeside_54 (by decide) ?_
        refine lv_goto (tgt := 59) hx hb dX7_placeBeside_55 (by decide) ?_
        obtain rfl := inj1 hf
        exact J10 _ _ hP hD hS _ (lv_sub hl [1, 0] rfl)
      · replace hf := ifn c12 hf
        refine lv_iload_n hx hb dX7_placeBeside_38 rfl (lv_at hl 1 rfl) ?_
        refine lv_bipush (v := (8 : Int32)) hx hb dX7_placeBeside_39 (by decide) ?_
        refine lv_icmp_ge (tgt := 54) hx hb dX7_placeBeside_41 (by decide) (fun c13 => ?_) (fun c13 => ?_)
        · replace hf := ifp c13 hf
          refine lv_iconst (v := (1 : Int32)) hx hb dX7_placeBeside_54 (by decide) ?_
          refine lv_goto (tgt := 59) hx hb dX7_placeBeside_55 (by decide) ?_
          obtain rfl := inj1 hf
          exact J10 _ _ hP hD hS _ (lv_sub hl [1, 0] rfl)
        · replace hf := ifn c13 hf
          refine lv_iload_n hx hb dX7_placeBeside_44 rfl (lv_at hl 0 rfl) ?_
          refine lv_if_lt (tgt := 54) hx hb dX7_placeBeside_45 (by decide) (fun c14 => ?_) (fun c14 => ?_)
          · replace hf := ifp c14 hf
            refine lv_iconst (v := (1 : Int32)) hx hb dX7_placeBeside_54 (by decide) ?_
            refine lv_goto (tgt := 59) hx hb dX7_placeBeside_55 (by decide) ?_
            obtain rfl := inj1 hf
            exact J10 _ _ hP hD hS _ (lv_sub hl [1, 0] rfl)
          · replace hf := ifn c14 hf
            refine lv_iload_n hx hb dX7_placeBeside_48 rfl (lv_at hl 0 rfl) ?_
            refine lv_bipush (v := (8 : Int32)) hx hb dX7_placeBeside_49 (by decide) ?_
            refine lv_icmp_lt (tgt := 58) hx hb dX7_placeBeside_51 (by decide) (fun c15 => ?_) (fun c15 => ?_)
            · replace hf := ifp c15 hf
              refine lv_iconst (v := (0 : Int32)) hx hb dX7_placeBeside_58 (by decide) ?_
              obtain rfl := inj1 hf
              exact J10 _ _ hP hD hS _ (lv_sub hl [1, 0] rfl)
            · replace hf := ifn c15 hf
              refine lv_iconst (v := (1 : Int32)) hx hb dX7_placeBeside_54 (by decide) ?_
              refine lv_goto (tgt := 59) hx hb dX7_placeBeside_55 (by decide) ?_
              obtain rfl := inj1 hf
              exact J10 _ _ hP hD hS _ (lv_sub hl [1, 0] rfl)
    · replace hf := ifn c2 hf
      refine lv_iconst (v := (-1 : Int32)) hx hb dX7_placeBeside_10 (by decide) ?_
      obtain rfl := inj1 hf
      subst hQ
      exact CM_iret hx hb hr rfl hlocks hAe hP hD hS dX7_placeBeside_11
def rmX7_directionOfFlow : Room := { frames := 1, cells := 0, slots := 0, locals := 24 }
set_option maxHeartbeats 4000000 in
set_option maxRecDepth 100000 in
theorem c_X7_directionOfFlow (l : Launch) (dC : Nat → ClassId) (dI : Nat → Nat → Nat) (cI cZ : ClassId) (te : Nat → Nat) (h_p1 : Nat) (n_p1 : Nat) (p1 : Nat → Int32) (p2 : Int32) (p3 : Int32) (o0 : Int32) (hf : f_X7_directionOfFlow n_p1 p1 p2 p3 = some o0) : CM l yX7_directionOfFlow wsX7_directionOfFlow rmX7_directionOfFlow (kS te) dC dI cI cZ [.ref h_p1, .int p2, .int p3] [(h_p1, .inl (cI, n_p1, .inl p1))] [(h_p1, .inl (cI, n_p1, .inl p1))] (some (.int o0)) := by
  refine CM_of (cc := cX7_directionOfFlow) (maxL := 7) (ret := (some .int)) (by decide +kernel) rfl (Nat.le_of_ble_eq_true rfl) ?_
  intro p e s m args below meth c A Q hx hb hr hml hown hts hlocks hA hK hP hD hS hE hQ hAe ls hl
  have hown : s.vm.findClass RX7 = some m.cls := hown
  have hl : lv_has ls 7 [(0, .ref h_p1), (1, .int p2), (2, .int p3)] := hl
  unfold f_X7_directionOfFlow at hf
  refine lv_aload_n hx hb dX7_directionOfFlow_0 rfl (lv_at hl 0 rfl) ?_
  refine lv_iload_n hx hb dX7_directionOfFlow_1 rfl (lv_at hl 1 rfl) ?_
  refine lv_iload_n hx hb dX7_directionOfFlow_2 rfl (lv_at hl 2 rfl) ?_
  obtain ⟨r1, hg2, hf⟩ := bd1_some hf
  refine CM_callS (As := [.ref h_p1, .int p2, .int p3]) (rest := []) (wc := [(h_p1, .inl (cI, n_p1, .inl p1))]) (w1 := [(h_p1, .inl (cI, n_p1, .inl p1))]) (wr := []) (wo := [(h_p1, .inl (cI, n_p1, .inl p1))]) (v := (some (.int r1))) ⟨hx, hb, hml, hown, hts⟩ (c_X7_surfaceAt l dC dI cI cZ te h_p1 n_p1 p1 p2 p3 r1 hg2) (va_cwS 3 hts gX7_directionOfFlow_X7_surfaceAt rfl rfl rfl (by decide +kernel) ⟨Nat.le_of_ble_eq_true rfl, Nat.le_of_ble_eq_true rfl⟩) (kS_env te) hK hP hD hS hA hE [0] [] [0] rfl rfl (by decide) (by decide) (by decide) (by decide) rfl rfl hl.1 rfl (Nat.le_of_ble_eq_true rfl) dX7_directionOfFlow_3 ⟨Nat.zero_le _, Nat.zero_le _⟩ (fun H locs hP hD hS => ?_)
  show W p l e rmX7_directionOfFlow s m args below meth c H locs 0 0 Q (F0 m 6 ls [.int r1])
  refine lv_istore_n (lv' := [(3, .int r1), (0, .ref h_p1), (1, .int p2), (2, .int p3)]) hx hb dX7_directionOfFlow_6 rfl hl (by decide) rfl (fun ls hl => ?_)
  refine lv_iconst (v := (-1 : Int32)) hx hb dX7_directionOfFlow_7 (by decide) ?_
  refine lv_istore (lv' := [(4, .int (-1 : Int32)), (3, .int r1), (0, .ref h_p1), (1, .int p2), (2, .int p3)]) hx hb dX7_directionOfFlow_8 hl (by decide) rfl (fun ls hl => ?_)
  refine lv_iconst (v := (0 : Int32)) hx hb dX7_directionOfFlow_10 (by decide) ?_
  refine lv_istore (lv' := [(5, .int (0 : Int32)), (4, .int (-1 : Int32)), (3, .int r1), (0, .ref h_p1), (1, .int p2), (2, .int p3)]) hx hb dX7_directionOfFlow_11 hl (by decide) rfl (fun ls hl => ?_)
  have L31 : ∀ (fu20 : Nat) (x16 : Int32) (x17 : Int32) (x18 : Int32) (x15 : Int32), f_X7_directionOfFlow_L1 p3 n_p1 p1 p2 fu20 x16 x17 x18 = some x15 → (∀ (H : Heap) (locs : List Loc), va_P (dC, dI) vwCl [(h_p1, .inl (cI, n_p1, .inl p1))] H → va_D A [(h_p1, .inl (cI, n_p1, .inl p1))] → va_S A s.heap H locs → ∀ ls : Array Slot, lv_has ls 7 [(4, .int x15)] → W p l e rmX7_directionOfFlow s m args below meth c H locs 0 0 Q (F0 m 63 ls [])) → ∀ (H : Heap) (locs : List Loc), va_P (dC, dI) vwCl [(h_p1, .inl (cI, n_p1, .inl p1))] H → va_D A [(h_p1, .inl (cI, n_p1, .inl p1))] → va_S A s.heap H locs → ∀ ls : Array Slot, lv_has ls 7 [(0, .ref h_p1), (1, .int p2), (2, .int p3), (3, .int x16), (4, .int x17), (5, .int x18)] → W p l e rmX7_directionOfFlow s m args below meth c H locs 0 0 Q (F0 m 13 ls []) := by
    intro fu20
    induction fu20 with
    | zero =>
      intro x16 x17 x18 x15 hf
      unfold f_X7_directionOfFlow_L1 at hf
      exact none_ne hf
    | succ fu20 ih19 =>
      intro x16 x17 x18 x15 hf hX21 H locs hP hD hS ls hl
      unfold f_X7_directionOfFlow_L1 at hf
      refine lv_iload hx hb dX7_directionOfFlow_13 (lv_at hl 5 rfl) ?_
      refine lv_bipush (v := (8 : Int32)) hx hb dX7_directionOfFlow_15 (by decide) ?_
      refine lv_icmp_ge (tgt := 63) hx hb dX7_directionOfFlow_17 (by decide) (fun c22 => ?_) (fun c22 => ?_)
      · replace hf := ifp c22 hf
        obtain rfl := inj1 hf
        exact hX21 _ _ hP hD hS _ (lv_sub hl [4] rfl)
      · replace hf := ifn c22 hf
        refine lv_iload_n hx hb dX7_directionOfFlow_20 rfl (lv_at hl 2 rfl) ?_
        refine lv_iload hx hb dX7_directionOfFlow_21 (lv_at hl 5 rfl) ?_
        obtain ⟨r23, hg24, hf⟩ := bd1_some hf
        refine CM_callS (As := [.int p3, .int x18]) (rest := []) (wc := []) (w1 := []) (wr := [(h_p1, .inl (cI, n_p1, .inl p1))]) (wo := [(h_p1, .inl (cI, n_p1, .inl p1))]) (v := (some (.int r23))) ⟨hx, hb, hml, hown, hts⟩ (c_X7_placeBeside l dC dI cI cZ te p3 x18 r23 hg24) (va_cwS 2 hts gX7_directionOfFlow_X7_placeBeside rfl rfl rfl (by decide +kernel) ⟨Nat.le_of_ble_eq_true rfl, Nat.le_of_ble_eq_true rfl⟩) (kS_env te) hK hP hD hS hA hE [] [0] [0] rfl rfl (by decide) (by decide) (by decide) (by decide) rfl rfl hl.1 rfl (Nat.le_of_ble_eq_true rfl) dX7_directionOfFlow_23 ⟨Nat.zero_le _, Nat.zero_le _⟩ (fun H locs hP hD hS => ?_)
        show W p l e rmX7_directionOfFlow s m args below meth c H locs 0 0 Q (F0 m 26 ls [.int r23])
        refine lv_istore (lv' := [(6, .int r23), (0, .ref h_p1), (1, .int p2), (2, .int p3), (3, .int x16), (4, .int x17), (5, .int x18)]) hx hb dX7_directionOfFlow_26 hl (by decide) rfl (fun ls hl => ?_)
        refine lv_iload hx hb dX7_directionOfFlow_28 (lv_at hl 0 rfl) ?_
        refine lv_iconst (v := (-1 : Int32)) hx hb dX7_directionOfFlow_30 (by decide) ?_
        refine lv_icmp_eq (tgt := 57) hx hb dX7_directionOfFlow_31 (by decide) (fun c25 => ?_) (fun c25 => ?_)
        · replace hf := ifp c25 hf
          refine lv_iinc (v := (x18 + (1 : Int32))) (lv' := [(5, .int (x18 + (1 : Int32))), (6, .int r23), (0, .ref h_p1), (1, .int p2), (2, .int p3), (3, .int x16), (4, .int x17)]) hx hb dX7_directionOfFlow_57 hl (k := 6) rfl rfl (by decide) rfl (fun ls hl => ?_)
          refine lv_goto (tgt := 13) hx hb dX7_directionOfFlow_60 (by decide) ?_
          exact ih19 _ _ _ _ hf hX21 _ _ hP hD hS _ (lv_sub hl [2, 3, 4, 5, 6, 0] rfl)
        · replace hf := ifn c25 hf
          refine lv_aload_n hx hb dX7_directionOfFlow_34 rfl (lv_at hl 1 rfl) ?_
          refine lv_iload_n hx hb dX7_directionOfFlow_35 rfl (lv_at hl 2 rfl) ?_
          refine lv_iload hx hb dX7_directionOfFlow_36 (lv_at hl 0 rfl) ?_
          obtain ⟨r26, hg27, hf⟩ := bd1_some hf
          refine CM_callS (As := [.ref h_p1, .int p2, .int r23]) (rest := []) (wc := [(h_p1, .inl (cI, n_p1, .inl p1))]) (w1 := [(h_p1, .inl (cI, n_p1, .inl p1))]) (wr := []) (wo := [(h_p1, .inl (cI, n_p1, .inl p1))]) (v := (some (.int r26))) ⟨hx, hb, hml, hown, hts⟩ (c_X7_surfaceAt l dC dI cI cZ te h_p1 n_p1 p1 p2 r23 r26 hg27) (va_cwS 3 hts gX7_directionOfFlow_X7_surfaceAt rfl rfl rfl (by decide +kernel) ⟨Nat.le_of_ble_eq_true rfl, Nat.le_of_ble_eq_true rfl⟩) (kS_env te) hK hP hD hS hA hE [0] [] [0] rfl rfl (by decide) (by decide) (by decide) (by decide) rfl rfl hl.1 rfl (Nat.le_of_ble_eq_true rfl) dX7_directionOfFlow_38 ⟨Nat.zero_le _, Nat.zero_le _⟩ (fun H locs hP hD hS => ?_)
          show W p l e rmX7_directionOfFlow s m args below meth c H locs 0 0 Q (F0 m 41 ls [.int r26])
          refine lv_iload_n hx hb dX7_directionOfFlow_41 rfl (lv_at hl 4 rfl) ?_
          refine lv_icmp_ge (tgt := 57) hx hb dX7_directionOfFlow_42 (by decide) (fun c28 => ?_) (fun c28 => ?_)
          · replace hf := ifp c28 hf
            refine lv_iinc (v := (x18 + (1 : Int32))) (lv' := [(5, .int (x18 + (1 : Int32))), (6, .int r23), (0, .ref h_p1), (1, .int p2), (2, .int p3), (3, .int x16), (4, .int x17)]) hx hb dX7_directionOfFlow_57 hl (k := 6) rfl rfl (by decide) rfl (fun ls hl => ?_)
            refine lv_goto (tgt := 13) hx hb dX7_directionOfFlow_60 (by decide) ?_
            exact ih19 _ _ _ _ hf hX21 _ _ hP hD hS _ (lv_sub hl [2, 3, 4, 5, 6, 0] rfl)
          · replace hf := ifn c28 hf
            refine lv_aload_n hx hb dX7_directionOfFlow_45 rfl (lv_at hl 1 rfl) ?_
            refine lv_iload_n hx hb dX7_directionOfFlow_46 rfl (lv_at hl 2 rfl) ?_
            refine lv_iload hx hb dX7_directionOfFlow_47 (lv_at hl 0 rfl) ?_
            obtain ⟨r29, hg30, hf⟩ := bd1_some hf
            refine CM_callS (As := [.ref h_p1, .int p2, .int r23]) (rest := []) (wc := [(h_p1, .inl (cI, n_p1, .inl p1))]) (w1 := [(h_p1, .inl (cI, n_p1, .inl p1))]) (wr := []) (wo := [(h_p1, .inl (cI, n_p1, .inl p1))]) (v := (some (.int r29))) ⟨hx, hb, hml, hown, hts⟩ (c_X7_surfaceAt l dC dI cI cZ te h_p1 n_p1 p1 p2 r23 r29 hg30) (va_cwS 3 hts gX7_directionOfFlow_X7_surfaceAt rfl rfl rfl (by decide +kernel) ⟨Nat.le_of_ble_eq_true rfl, Nat.le_of_ble_eq_true rfl⟩) (kS_env te) hK hP hD hS hA hE [0] [] [0] rfl rfl (by decide) (by decide) (by decide) (by decide) rfl rfl hl.1 rfl (Nat.le_of_ble_eq_true rfl) dX7_directionOfFlow_49 ⟨Nat.zero_le _, Nat.zero_le _⟩ (fun H locs hP hD hS => ?_)
            show W p l e rmX7_directionOfFlow s m args below meth c H locs 0 0 Q (F0 m 52 ls [.int r29])
            refine lv_istore_n (lv' := [(3, .int r29), (6, .int r23), (0, .ref h_p1), (1, .int p2), (2, .int p3), (4, .int x17), (5, .int x18)]) hx hb dX7_directionOfFlow_52 rfl hl (by decide) rfl (fun ls hl => ?_)
            refine lv_iload hx hb dX7_directionOfFlow_53 (lv_at hl 6 rfl) ?_
            refine lv_istore (lv' := [(4, .int x18), (3, .int r29), (6, .int r23), (0, .ref h_p1), (1, .int p2), (2, .int p3), (5, .int x18)]) hx hb dX7_directionOfFlow_55 hl (by decide) rfl (fun ls hl => ?_)
            refine lv_iinc (v := (x18 + (1 : Int32))) (lv' := [(5, .int (x18 + (1 : Int32))), (4, .int x18), (3, .int r29), (6, .int r23), (0, .ref h_p1), (1, .int p2), (2, .int p3)]) hx hb dX7_directionOfFlow_57 hl (k := 6) rfl rfl (by decide) rfl (fun ls hl => ?_)
            refine lv_goto (tgt := 13) hx hb dX7_directionOfFlow_60 (by decide) ?_
            exact ih19 _ _ _ _ hf hX21 _ _ hP hD hS _ (lv_sub hl [4, 5, 6, 2, 1, 0] rfl)
  obtain ⟨x15, hg, hf⟩ := bd1_some hf
  refine L31 FU _ _ _ _ hg ?_ _ _ hP hD hS _ (lv_sub hl [3, 4, 5, 2, 1, 0] rfl)
  · intro H locs hP hD hS ls hl
    refine lv_iload hx hb dX7_directionOfFlow_63 (lv_at hl 0 rfl) ?_
    obtain rfl := inj1 hf
    subst hQ
    exact CM_iret hx hb hr rfl hlocks hAe hP hD hS dX7_directionOfFlow_65
def rmX5_turnBetween : Room := { frames := 1, cells := 0, slots := 0, locals := 22 }
set_option maxRecDepth 20000 in
theorem kX5_turnBetween_0 : Cond.methodLink RX5 68 Lib.Math.min.name ∈ wsX5_turnBetween := by decide +kernel
set_option maxRecDepth 20000 in
theorem kX5_turnBetween_1 : Cond.static Lib.Math.min.name ∈ wsX5_turnBetween := by decide +kernel
set_option maxRecDepth 20000 in
theorem kX5_turnBetween_2 : Cond.initialized "java/lang/Math" ∈ wsX5_turnBetween := by decide +kernel
set_option maxRecDepth 20000 in
theorem kX5_turnBetween_3 : Cond.code Lib.Math.min.name Lib.Math.min.code 2 (some .int) ∈ wsX5_turnBetween := by decide +kernel
set_option maxHeartbeats 4000000 in
set_option maxRecDepth 100000 in
theorem c_X5_turnBetween (l : Launch) (dC : Nat → ClassId) (dI : Nat → Nat → Nat) (cI cZ : ClassId) (te : Nat → Nat) (p1 : Int32) (p2 : Int32) (o0 : Int32) (hf : f_X5_turnBetween p1 p2 = some o0) : CM l yX5_turnBetween wsX5_turnBetween rmX5_turnBetween (kS te) dC dI cI cZ [.int p1, .int p2] [] [] (some (.int o0)) := by
  refine CM_of (cc := cX5_turnBetween) (maxL := 3) (ret := (some .int)) (by decide +kernel) rfl (Nat.le_of_ble_eq_true rfl) ?_
  intro p e s m args below meth c A Q hx hb hr hml hown hts hlocks hA hK hP hD hS hE hQ hAe ls hl
  have hown : s.vm.findClass RX5 = some m.cls := hown
  have hl : lv_has ls 3 [(0, .int p1), (1, .int p2)] := hl
  unfold f_X5_turnBetween at hf
  refine lv_iload_n hx hb dX5_turnBetween_0 rfl (lv_at hl 0 rfl) ?_
  refine lv_iload_n hx hb dX5_turnBetween_1 rfl (lv_at hl 1 rfl) ?_
  refine lv_isub hx hb dX5_turnBetween_2 ?_
  refine lv_bipush (v := (16 : Int32)) hx hb dX5_turnBetween_3 (by decide) ?_
  obtain ⟨r1, hg2, hf⟩ := bd1_some hf
  refine CM_callS (As := [.int (p1 - p2), .int (16 : Int32)]) (rest := []) (wc := []) (w1 := []) (wr := []) (wo := []) (v := (some (.int r1))) ⟨hx, hb, hml, hown, hts⟩ (c_J9_floorMod_7cf53 l dC dI cI cZ te (p1 - p2) (16 : Int32) r1 hg2) (va_cwS 2 hts gX5_turnBetween_J9_floorMod_7cf53 rfl rfl rfl (by decide +kernel) ⟨Nat.le_of_ble_eq_true rfl, Nat.le_of_ble_eq_true rfl⟩) (kS_env te) hK hP hD hS hA hE [] [] [] rfl rfl (by decide) (by decide) (by decide) (by decide) rfl rfl hl.1 rfl (Nat.le_of_ble_eq_true rfl) dX5_turnBetween_5 ⟨Nat.zero_le _, Nat.zero_le _⟩ (fun H locs hP hD hS => ?_)
  show W p l e rmX5_turnBetween s m args below meth c H locs 0 0 Q (F0 m 8 ls [.int r1])
  refine lv_istore_n (lv' := [(2, .int r1), (0, .int p1), (1, .int p2)]) hx hb dX5_turnBetween_8 rfl hl (by decide) rfl (fun ls hl => ?_)
  refine lv_iload_n hx hb dX5_turnBetween_9 rfl (lv_at hl 0 rfl) ?_
  refine lv_bipush (v := (16 : Int32)) hx hb dX5_turnBetween_10 (by decide) ?_
  refine lv_iload_n hx hb dX5_turnBetween_12 rfl (lv_at hl 0 rfl) ?_
  refine lv_isub hx hb dX5_turnBetween_13 ?_
  refine va_mmin hx hb (hml.trans hl.1.symm) hown (hts _ kX5_turnBetween_0) (hts _ kX5_turnBetween_1) (hts _ kX5_turnBetween_2) (hts _ kX5_turnBetween_3) (Nat.le_of_ble_eq_true rfl) (Nat.le_of_ble_eq_true rfl) (Nat.zero_le _) (Nat.zero_le _) dX5_turnBetween_14 ?_
  obtain rfl := inj1 hf
  subst hQ
  exact CM_iret hx hb hr rfl hlocks hAe hP hD hS dX5_turnBetween_17
def rmX5_stagesOf : Room := { frames := 2, cells := 0, slots := 0, locals := 50 }
set_option maxRecDepth 20000 in
theorem kX5_stagesOf_0 : ∀ w ∈ u_ws RX1 TX1 10, w ∈ wsX5_stagesOf := by decide +kernel
set_option maxRecDepth 20000 in
theorem kX5_stagesOf_1 : Cond.fieldLink RX5 9 "StoneRiver$Found" "scratches" "LStoneRiver$Rows;" ∈ wsX5_stagesOf := by decide +kernel
set_option maxRecDepth 20000 in
theorem kX5_stagesOf_2 : Cond.fieldLink RX5 25 "StoneRiver$Found" "surfaces" "[I" ∈ wsX5_stagesOf := by decide +kernel
set_option maxRecDepth 20000 in
theorem kX5_stagesOf_3 : Cond.fieldLink RX5 36 "StoneRiver$Found" "numbers" "[I" ∈ wsX5_stagesOf := by decide +kernel
set_option maxHeartbeats 4000000 in
set_option maxRecDepth 100000 in
theorem c_X5_stagesOf (l : Launch) (dC : Nat → ClassId) (dI : Nat → Nat → Nat) (cI cZ : ClassId) (te : Nat → Nat) (h_p1 : Nat) (h_p1_surfaces : Nat) (h_p1_cliffs : Nat) (h_p1_boulders : Nat) (h_p1_scratches : Nat) (h_p1_numbers : Nat) (h_p1_facts : Nat) (h_p1_signs : Nat) (h_p1_areas : Nat) (h_p1_heights : Nat) (h_p1_scratches_cells : Nat) (p1_ridges : Int32) (p1_scratches_limit : Int32) (p1_scratches_size : Int32) (n_p1_scratches_cells : Nat) (p1_scratches_cells : Nat → Int32) (p1_surfaces : Nat → Int32) (p1_numbers : Nat → Int32) (p2 : Int32) (o0 : Int32) (hf : f_X5_stagesOf p1_scratches_size n_p1_scratches_cells p1_scratches_cells p1_surfaces p1_numbers p2 = some o0) : CM l yX5_stagesOf wsX5_stagesOf rmX5_stagesOf (kS te) dC dI cI cZ [.ref h_p1, .int p2] [(h_p1, .inr (1, fX1 h_p1_surfaces h_p1_cliffs h_p1_boulders h_p1_scratches h_p1_numbers h_p1_facts h_p1_signs h_p1_areas h_p1_heights p1_ridges)), (h_p1_scratches, .inr (4, fX4 p1_scratches_limit h_p1_scratches_cells p1_scratches_size)), (h_p1_scratches_cells, .inl (cI, n_p1_scratches_cells, .inl p1_scratches_cells)), (h_p1_surfaces, .inl (cI, 192, .inl p1_surfaces)), (h_p1_numbers, .inl (cI, 6, .inl p1_numbers))] [(h_p1, .inr (1, fX1 h_p1_surfaces h_p1_cliffs h_p1_boulders h_p1_scratches h_p1_numbers h_p1_facts h_p1_signs h_p1_areas h_p1_heights p1_ridges)), (h_p1_scratches, .inr (4, fX4 p1_scratches_limit h_p1_scratches_cells p1_scratches_size)), (h_p1_scratches_cells, .inl (cI, n_p1_scratches_cells, .inl p1_scratches_cells)), (h_p1_surfaces, .inl (cI, 192, .inl p1_surfaces)), (h_p1_numbers, .inl (cI, 6, .inl p1_numbers))] (some (.int o0)) := by
  refine CM_of (cc := cX5_stagesOf) (maxL := 7) (ret := (some .int)) (by decide +kernel) rfl (Nat.le_of_ble_eq_true rfl) ?_
  intro p e s m args below meth c A Q hx hb hr hml hown hts hlocks hA hK hP hD hS hE hQ hAe ls hl
  have hown : s.vm.findClass RX5 = some m.cls := hown
  have hl : lv_has ls 7 [(0, .ref h_p1), (1, .int p2)] := hl
  unfold f_X5_stagesOf at hf
  refine lv_aload_n hx hb dX5_stagesOf_0 rfl (lv_at hl 0 rfl) ?_
  refine va_get (D := (dC, dI)) (ci := 1) (v := .ref h_p1_scratches) (C := RX1) (T := TX1) (N := 10) hx hb hts kX5_stagesOf_0 hown hK hP 0 rfl rfl 3 (by decide) (hts _ kX5_stagesOf_1) (fun _ h9 => h9) rfl dX5_stagesOf_1 ?_
  refine lv_iload_n hx hb dX5_stagesOf_4 rfl (lv_at hl 1 rfl) ?_
  refine lv_iconst (v := (0 : Int32)) hx hb dX5_stagesOf_5 (by decide) ?_
  obtain ⟨r1, hg2, hf⟩ := bd1_some hf
  refine CM_callV (C := RX4) (As := [.int p2, .int (0 : Int32)]) (rest := []) (wc := [(h_p1_scratches, .inr (4, fX4 p1_scratches_limit h_p1_scratches_cells p1_scratches_size)), (h_p1_scratches_cells, .inl (cI, n_p1_scratches_cells, .inl p1_scratches_cells))]) (w1 := [(h_p1_scratches, .inr (4, fX4 p1_scratches_limit h_p1_scratches_cells p1_scratches_size)), (h_p1_scratches_cells, .inl (cI, n_p1_scratches_cells, .inl p1_scratches_cells))]) (wr := [(h_p1, .inr (1, fX1 h_p1_surfaces h_p1_cliffs h_p1_boulders h_p1_scratches h_p1_numbers h_p1_facts h_p1_signs h_p1_areas h_p1_heights p1_ridges)), (h_p1_surfaces, .inl (cI, 192, .inl p1_surfaces)), (h_p1_numbers, .inl (cI, 6, .inl p1_numbers))]) (wo := [(h_p1, .inr (1, fX1 h_p1_surfaces h_p1_cliffs h_p1_boulders h_p1_scratches h_p1_numbers h_p1_facts h_p1_signs h_p1_areas h_p1_heights p1_ridges)), (h_p1_scratches, .inr (4, fX4 p1_scratches_limit h_p1_scratches_cells p1_scratches_size)), (h_p1_scratches_cells, .inl (cI, n_p1_scratches_cells, .inl p1_scratches_cells)), (h_p1_surfaces, .inl (cI, 192, .inl p1_surfaces)), (h_p1_numbers, .inl (cI, 6, .inl p1_numbers))]) (v := (some (.int r1))) ⟨hx, hb, hml, hown, hts⟩ (c_X4_cell l dC dI cI cZ te h_p1_scratches h_p1_scratches_cells p1_scratches_limit p1_scratches_size n_p1_scratches_cells p1_scratches_cells p2 (0 : Int32) r1 hg2) (cwV 2 hts gX5_stagesOf_X4_cell rfl rfl rfl (by decide +kernel) ⟨Nat.le_of_ble_eq_true rfl, Nat.le_of_ble_eq_true rfl⟩) (kS_env te) hK hP hD hS hA hE [1, 2] [0, 3, 4] [0, 3, 4, 1, 2] rfl rfl (by decide) (by decide) (by decide) (by decide) rfl 1 4 rfl rfl rfl rfl hl.1 rfl (Nat.le_of_ble_eq_true rfl) dX5_stagesOf_6 ⟨Nat.zero_le _, Nat.zero_le _⟩ (fun H locs hP hD hS => ?_)
  show W p l e rmX5_stagesOf s m args below meth c H locs 0 0 Q (F0 m 9 ls [.int r1])
  refine lv_istore_n (lv' := [(2, .int r1), (0, .ref h_p1), (1, .int p2)]) hx hb dX5_stagesOf_9 rfl hl (by decide) rfl (fun ls hl => ?_)
  refine lv_aload_n hx hb dX5_stagesOf_10 rfl (lv_at hl 1 rfl) ?_
  refine va_get (D := (dC, dI)) (ci := 1) (v := .ref h_p1_scratches) (C := RX1) (T := TX1) (N := 10) hx hb hts kX5_stagesOf_0 hown hK hP 0 rfl rfl 3 (by decide) (hts _ kX5_stagesOf_1) (fun _ h9 => h9) rfl dX5_stagesOf_11 ?_
  refine lv_iload_n hx hb dX5_stagesOf_14 rfl (lv_at hl 2 rfl) ?_
  refine lv_iconst (v := (1 : Int32)) hx hb dX5_stagesOf_15 (by decide) ?_
  obtain ⟨r3, hg4, hf⟩ := bd1_some hf
  refine CM_callV (C := RX4) (As := [.int p2, .int (1 : Int32)]) (rest := []) (wc := [(h_p1_scratches, .inr (4, fX4 p1_scratches_limit h_p1_scratches_cells p1_scratches_size)), (h_p1_scratches_cells, .inl (cI, n_p1_scratches_cells, .inl p1_scratches_cells))]) (w1 := [(h_p1_scratches, .inr (4, fX4 p1_scratches_limit h_p1_scratches_cells p1_scratches_size)), (h_p1_scratches_cells, .inl (cI, n_p1_scratches_cells, .inl p1_scratches_cells))]) (wr := [(h_p1, .inr (1, fX1 h_p1_surfaces h_p1_cliffs h_p1_boulders h_p1_scratches h_p1_numbers h_p1_facts h_p1_signs h_p1_areas h_p1_heights p1_ridges)), (h_p1_surfaces, .inl (cI, 192, .inl p1_surfaces)), (h_p1_numbers, .inl (cI, 6, .inl p1_numbers))]) (wo := [(h_p1, .inr (1, fX1 h_p1_surfaces h_p1_cliffs h_p1_boulders h_p1_scratches h_p1_numbers h_p1_facts h_p1_signs h_p1_areas h_p1_heights p1_ridges)), (h_p1_scratches, .inr (4, fX4 p1_scratches_limit h_p1_scratches_cells p1_scratches_size)), (h_p1_scratches_cells, .inl (cI, n_p1_scratches_cells, .inl p1_scratches_cells)), (h_p1_surfaces, .inl (cI, 192, .inl p1_surfaces)), (h_p1_numbers, .inl (cI, 6, .inl p1_numbers))]) (v := (some (.int r3))) ⟨hx, hb, hml, hown, hts⟩ (c_X4_cell l dC dI cI cZ te h_p1_scratches h_p1_scratches_cells p1_scratches_limit p1_scratches_size n_p1_scratches_cells p1_scratches_cells p2 (1 : Int32) r3 hg4) (cwV 2 hts gX5_stagesOf_X4_cell rfl rfl rfl (by decide +kernel) ⟨Nat.le_of_ble_eq_true rfl, Nat.le_of_ble_eq_true rfl⟩) (kS_env te) hK hP hD hS hA hE [1, 2] [0, 3, 4] [0, 3, 4, 1, 2] rfl rfl (by decide) (by decide) (by decide) (by decide) rfl 1 4 rfl rfl rfl rfl hl.1 rfl (Nat.le_of_ble_eq_true rfl) dX5_stagesOf_16 ⟨Nat.zero_le _, Nat.zero_le _⟩ (fun H locs hP hD hS => ?_)
  show W p l e rmX5_stagesOf s m args below meth c H locs 0 0 Q (F0 m 19 ls [.int r3])
  refine lv_istore_n (lv' := [(3, .int r3), (2, .int r1), (0, .ref h_p1), (1, .int p2)]) hx hb dX5_stagesOf_19 rfl hl (by decide) rfl (fun ls hl => ?_)
  refine lv_iconst (v := (0 : Int32)) hx hb dX5_stagesOf_20 (by decide) ?_
  refine lv_istore (lv' := [(4, .int (0 : Int32)), (3, .int r3), (2, .int r1), (0, .ref h_p1), (1, .int p2)]) hx hb dX5_stagesOf_21 hl (by decide) rfl (fun ls hl => ?_)
  refine lv_iconst (v := (0 : Int32)) hx hb dX5_stagesOf_23 (by decide) ?_
  refine lv_istore (lv' := [(5, .int (0 : Int32)), (4, .int (0 : Int32)), (3, .int r3), (2, .int r1), (0, .ref h_p1), (1, .int p2)]) hx hb dX5_stagesOf_24 hl (by decide) rfl (fun ls hl => ?_)
  have L33 : ∀ (fu21 : Nat) (x18 : Int32) (x19 : Int32) (x17 : Int32), f_X5_stagesOf_L1 p1_surfaces r1 r3 p1_numbers fu21 x18 x19 = some x17 → (∀ (H : Heap) (locs : List Loc), va_P (dC, dI) vwCl [(h_p1, .inr (1, fX1 h_p1_surfaces h_p1_cliffs h_p1_boulders h_p1_scratches h_p1_numbers h_p1_facts h_p1_signs h_p1_areas h_p1_heights p1_ridges)), (h_p1_scratches, .inr (4, fX4 p1_scratches_limit h_p1_scratches_cells p1_scratches_size)), (h_p1_scratches_cells, .inl (cI, n_p1_scratches_cells, .inl p1_scratches_cells)), (h_p1_surfaces, .inl (cI, 192, .inl p1_surfaces)), (h_p1_numbers, .inl (cI, 6, .inl p1_numbers))] H → va_D A [(h_p1, .inr (1, fX1 h_p1_surfaces h_p1_cliffs h_p1_boulders h_p1_scratches h_p1_numbers h_p1_facts h_p1_signs h_p1_areas h_p1_heights p1_ridges)), (h_p1_scratches, .inr (4, fX4 p1_scratches_limit h_p1_scratches_cells p1_scratches_size)), (h_p1_scratches_cells, .inl (cI, n_p1_scratches_cells, .inl p1_scratches_cells)), (h_p1_surfaces, .inl (cI, 192, .inl p1_surfaces)), (h_p1_numbers, .inl (cI, 6, .inl p1_numbers))] → va_S A s.heap H locs → ∀ ls : Array Slot, lv_has ls 7 [(4, .int x17)] → W p l e rmX5_stagesOf s m args below meth c H locs 0 0 Q (F0 m 82 ls [])) → ∀ (H : Heap) (locs : List Loc), va_P (dC, dI) vwCl [(h_p1, .inr (1, fX1 h_p1_surfaces h_p1_cliffs h_p1_boulders h_p1_scratches h_p1_numbers h_p1_facts h_p1_signs h_p1_areas h_p1_heights p1_ridges)), (h_p1_scratches, .inr (4, fX4 p1_scratches_limit h_p1_scratches_cells p1_scratches_size)), (h_p1_scratches_cells, .inl (cI, n_p1_scratches_cells, .inl p1_scratches_cells)), (h_p1_surfaces, .inl (cI, 192, .inl p1_surfaces)), (h_p1_numbers, .inl (cI, 6, .inl p1_numbers))] H → va_D A [(h_p1, .inr (1, fX1 h_p1_surfaces h_p1_cliffs h_p1_boulders h_p1_scratches h_p1_numbers h_p1_facts h_p1_signs h_p1_areas h_p1_heights p1_ridges)), (h_p1_scratches, .inr (4, fX4 p1_scratches_limit h_p1_scratches_cells p1_scratches_size)), (h_p1_scratches_cells, .inl (cI, n_p1_scratches_cells, .inl p1_scratches_cells)), (h_p1_surfaces, .inl (cI, 192, .inl p1_surfaces)), (h_p1_numbers, .inl (cI, 6, .inl p1_numbers))] → va_S A s.heap H locs → ∀ ls : Array Slot, lv_has ls 7 [(0, .ref h_p1), (2, .int r1), (3, .int r3), (4, .int x18), (5, .int x19)] → W p l e rmX5_stagesOf s m args below meth c H locs 0 0 Q (F0 m 26 ls []) := by
    intro fu21
    induction fu21 with
    | zero =>
      intro x18 x19 x17 hf
      unfold f_X5_stagesOf_L1 at hf
      exact none_ne hf
    | succ fu21 ih20 =>
      intro x18 x19 x17 hf hX22 H locs hP hD hS ls hl
      unfold f_X5_stagesOf_L1 at hf
      refine lv_iload hx hb dX5_stagesOf_26 (lv_at hl 4 rfl) ?_
      refine lv_iconst (v := (3 : Int32)) hx hb dX5_stagesOf_28 (by decide) ?_
      refine lv_icmp_ge (tgt := 82) hx hb dX5_stagesOf_29 (by decide) (fun c23 => ?_) (fun c23 => ?_)
      · replace hf := ifp c23 hf
        obtain rfl := inj1 hf
        exact hX22 _ _ hP hD hS _ (lv_sub hl [3] rfl)
      · replace hf := ifn c23 hf
        refine lv_aload_n hx hb dX5_stagesOf_32 rfl (lv_at hl 0 rfl) ?_
        refine va_get (D := (dC, dI)) (ci := 1) (v := .ref h_p1_surfaces) (C := RX1) (T := TX1) (N := 10) hx hb hts kX5_stagesOf_0 hown hK hP 0 rfl rfl 0 (by decide) (hts _ kX5_stagesOf_2) (fun _ h9 => h9) rfl dX5_stagesOf_33 ?_
        refine lv_iload hx hb dX5_stagesOf_36 (lv_at hl 4 rfl) ?_
        refine lv_iload_n hx hb dX5_stagesOf_38 rfl (lv_at hl 1 rfl) ?_
        obtain ⟨r24, hg25, hf⟩ := bd1_some hf
        refine CM_callS (As := [.ref h_p1_surfaces, .int x19, .int r1]) (rest := []) (wc := [(h_p1_surfaces, .inl (cI, 192, .inl p1_surfaces))]) (w1 := [(h_p1_surfaces, .inl (cI, 192, .inl p1_surfaces))]) (wr := [(h_p1, .inr (1, fX1 h_p1_surfaces h_p1_cliffs h_p1_boulders h_p1_scratches h_p1_numbers h_p1_facts h_p1_signs h_p1_areas h_p1_heights p1_ridges)), (h_p1_scratches, .inr (4, fX4 p1_scratches_limit h_p1_scratches_cells p1_scratches_size)), (h_p1_scratches_cells, .inl (cI, n_p1_scratches_cells, .inl p1_scratches_cells)), (h_p1_numbers, .inl (cI, 6, .inl p1_numbers))]) (wo := [(h_p1, .inr (1, fX1 h_p1_surfaces h_p1_cliffs h_p1_boulders h_p1_scratches h_p1_numbers h_p1_facts h_p1_signs h_p1_areas h_p1_heights p1_ridges)), (h_p1_scratches, .inr (4, fX4 p1_scratches_limit h_p1_scratches_cells p1_scratches_size)), (h_p1_scratches_cells, .inl (cI, n_p1_scratches_cells, .inl p1_scratches_cells)), (h_p1_surfaces, .inl (cI, 192, .inl p1_surfaces)), (h_p1_numbers, .inl (cI, 6, .inl p1_numbers))]) (v := (some (.int r24))) ⟨hx, hb, hml, hown, hts⟩ (c_X7_directionOfFlow l dC dI cI cZ te h_p1_surfaces (192) p1_surfaces x19 r1 r24 hg25) (va_cwS 3 hts gX5_stagesOf_X7_directionOfFlow rfl rfl rfl (by decide +kernel) ⟨Nat.le_of_ble_eq_true rfl, Nat.le_of_ble_eq_true rfl⟩) (kS_env te) hK hP hD hS hA hE [3] [0, 1, 2, 4] [0, 1, 2, 4, 3] rfl rfl (by decide) (by decide) (by decide) (by decide) rfl rfl hl.1 rfl (Nat.le_of_ble_eq_true rfl) dX5_stagesOf_39 ⟨Nat.zero_le _, Nat.zero_le _⟩ (fun H locs hP hD hS => ?_)
        show W p l e rmX5_stagesOf s m args below meth c H locs 0 0 Q (F0 m 42 ls [.int r24])
        refine lv_istore (lv' := [(6, .int r24), (0, .ref h_p1), (2, .int r1), (3, .int r3), (4, .int x18), (5, .int x19)]) hx hb dX5_stagesOf_42 hl (by decide) rfl (fun ls hl => ?_)
        refine lv_iload hx hb dX5_stagesOf_44 (lv_at hl 0 rfl) ?_
        refine lv_iconst (v := (-1 : Int32)) hx hb dX5_stagesOf_46 (by decide) ?_
        refine lv_icmp_eq (tgt := 76) hx hb dX5_stagesOf_47 (by decide) (fun c26 => ?_) (fun c26 => ?_)
        · replace hf := ifp c26 hf
          refine lv_iinc (v := (x19 + (1 : Int32))) (lv' := [(5, .int (x19 + (1 : Int32))), (6, .int r24), (0, .ref h_p1), (2, .int r1), (3, .int r3), (4, .int x18)]) hx hb dX5_stagesOf_76 hl (k := 5) rfl rfl (by decide) rfl (fun ls hl => ?_)
          refine lv_goto (tgt := 26) hx hb dX5_stagesOf_79 (by decide) ?_
          exact ih20 _ _ _ hf hX22 _ _ hP hD hS _ (lv_sub hl [2, 3, 4, 5, 0] rfl)
        · replace hf := ifn c26 hf
          refine lv_iconst (v := (2 : Int32)) hx hb dX5_stagesOf_50 (by decide) ?_
          refine lv_iload hx hb dX5_stagesOf_51 (lv_at hl 0 rfl) ?_
          refine lv_imul hx hb dX5_stagesOf_53 ?_
          refine lv_iload_n hx hb dX5_stagesOf_54 rfl (lv_at hl 3 rfl) ?_
          obtain ⟨r27, hg28, hf⟩ := bd1_some hf
          refine CM_callS (As := [.int ((2 : Int32) * r24), .int r3]) (rest := []) (wc := []) (w1 := []) (wr := [(h_p1, .inr (1, fX1 h_p1_surfaces h_p1_cliffs h_p1_boulders h_p1_scratches h_p1_numbers h_p1_facts h_p1_signs h_p1_areas h_p1_heights p1_ridges)), (h_p1_scratches, .inr (4, fX4 p1_scratches_limit h_p1_scratches_cells p1_scratches_size)), (h_p1_scratches_cells, .inl (cI, n_p1_scratches_cells, .inl p1_scratches_cells)), (h_p1_surfaces, .inl (cI, 192, .inl p1_surfaces)), (h_p1_numbers, .inl (cI, 6, .inl p1_numbers))]) (wo := [(h_p1, .inr (1, fX1 h_p1_surfaces h_p1_cliffs h_p1_boulders h_p1_scratches h_p1_numbers h_p1_facts h_p1_signs h_p1_areas h_p1_heights p1_ridges)), (h_p1_scratches, .inr (4, fX4 p1_scratches_limit h_p1_scratches_cells p1_scratches_size)), (h_p1_scratches_cells, .inl (cI, n_p1_scratches_cells, .inl p1_scratches_cells)), (h_p1_surfaces, .inl (cI, 192, .inl p1_surfaces)), (h_p1_numbers, .inl (cI, 6, .inl p1_numbers))]) (v := (some (.int r27))) ⟨hx, hb, hml, hown, hts⟩ (c_X5_turnBetween l dC dI cI cZ te ((2 : Int32) * r24) r3 r27 hg28) (va_cwS 2 hts gX5_stagesOf_X5_turnBetween rfl rfl rfl (by decide +kernel) ⟨Nat.le_of_ble_eq_true rfl, Nat.le_of_ble_eq_true rfl⟩) (kS_env te) hK hP hD hS hA hE [] [0, 1, 2, 3, 4] [0, 1, 2, 3, 4] rfl rfl (by decide) (by decide) (by decide) (by decide) rfl rfl hl.1 rfl (Nat.le_of_ble_eq_true rfl) dX5_stagesOf_55 ⟨Nat.zero_le _, Nat.zero_le _⟩ (fun H locs hP hD hS => ?_)
          show W p l e rmX5_stagesOf s m args below meth c H locs 0 0 Q (F0 m 58 ls [.int r27])
          refine lv_aload_n hx hb dX5_stagesOf_58 rfl (lv_at hl 1 rfl) ?_
          refine va_get (D := (dC, dI)) (ci := 1) (v := .ref h_p1_numbers) (C := RX1) (T := TX1) (N := 10) hx hb hts kX5_stagesOf_0 hown hK hP 0 rfl rfl 4 (by decide) (hts _ kX5_stagesOf_3) (fun _ h9 => h9) rfl dX5_stagesOf_59 ?_
          refine lv_iconst (v := (0 : Int32)) hx hb dX5_stagesOf_62 (by decide) ?_
          obtain ⟨g29, hf⟩ := chk_some hf
          refine va_iald hx hb hK hP 4 0 rfl rfl (gin_in g29) dX5_stagesOf_63 ?_
          refine lv_icmp_gt (tgt := 76) hx hb dX5_stagesOf_64 (by decide) (fun c30 => ?_) (fun c30 => ?_)
          · replace hf := ifp c30 hf
            refine lv_iinc (v := (x19 + (1 : Int32))) (lv' := [(5, .int (x19 + (1 : Int32))), (6, .int r24), (0, .ref h_p1), (2, .int r1), (3, .int r3), (4, .int x18)]) hx hb dX5_stagesOf_76 hl (k := 5) rfl rfl (by decide) rfl (fun ls hl => ?_)
            refine lv_goto (tgt := 26) hx hb dX5_stagesOf_79 (by decide) ?_
            exact ih20 _ _ _ hf hX22 _ _ hP hD hS _ (lv_sub hl [2, 3, 4, 5, 0] rfl)
          · replace hf := ifn c30 hf
            refine lv_iload hx hb dX5_stagesOf_67 (lv_at hl 4 rfl) ?_
            refine lv_iconst (v := (1 : Int32)) hx hb dX5_stagesOf_69 (by decide) ?_
            refine lv_iload hx hb dX5_stagesOf_70 (lv_at hl 5 rfl) ?_
            refine lv_ishl hx hb dX5_stagesOf_72 ?_
            refine lv_ior hx hb dX5_stagesOf_73 ?_
            obtain ⟨x31, e32, hf⟩ := nm_some hf
            refine lv_tope e32 ?_
            refine lv_istore (lv' := [(4, .int x31), (6, .int r24), (0, .ref h_p1), (2, .int r1), (3, .int r3), (5, .int x19)]) hx hb dX5_stagesOf_74 hl (by decide) rfl (fun ls hl => ?_)
            refine lv_iinc (v := (x19 + (1 : Int32))) (lv' := [(5, .int (x19 + (1 : Int32))), (4, .int x31), (6, .int r24), (0, .ref h_p1), (2, .int r1), (3, .int r3)]) hx hb dX5_stagesOf_76 hl (k := 5) rfl rfl (by decide) rfl (fun ls hl => ?_)
            refine lv_goto (tgt := 26) hx hb dX5_stagesOf_79 (by decide) ?_
            exact ih20 _ _ _ hf hX22 _ _ hP hD hS _ (lv_sub hl [3, 4, 5, 1, 0] rfl)
  obtain ⟨x17, hg, hf⟩ := bd1_some hf
  refine L33 FU _ _ _ hg ?_ _ _ hP hD hS _ (lv_sub hl [4, 3, 2, 1, 0] rfl)
  · intro H locs hP hD hS ls hl
    refine lv_iload hx hb dX5_stagesOf_82 (lv_at hl 0 rfl) ?_
    obtain rfl := inj1 hf
    subst hQ
    exact CM_iret hx hb hr rfl hlocks hAe hP hD hS dX5_stagesOf_84
def rmX5_areAtOnePlace : Room := { frames := 2, cells := 0, slots := 0, locals := 43 }
set_option maxRecDepth 20000 in
theorem kX5_areAtOnePlace_0 : ∀ w ∈ u_ws RX1 TX1 10, w ∈ wsX5_areAtOnePlace := by decide +kernel
set_option maxRecDepth 20000 in
theorem kX5_areAtOnePlace_1 : Cond.fieldLink RX5 9 "StoneRiver$Found" "scratches" "LStoneRiver$Rows;" ∈ wsX5_areAtOnePlace := by decide +kernel
set_option maxHeartbeats 4000000 in
set_option maxRecDepth 100000 in
theorem c_X5_areAtOnePlace (l : Launch) (dC : Nat → ClassId) (dI : Nat → Nat → Nat) (cI cZ : ClassId) (te : Nat → Nat) (h_p1 : Nat) (h_p1_surfaces : Nat) (h_p1_cliffs : Nat) (h_p1_boulders : Nat) (h_p1_scratches : Nat) (h_p1_numbers : Nat) (h_p1_facts : Nat) (h_p1_signs : Nat) (h_p1_areas : Nat) (h_p1_heights : Nat) (h_p1_scratches_cells : Nat) (p1_ridges : Int32) (p1_scratches_limit : Int32) (p1_scratches_size : Int32) (n_p1_scratches_cells : Nat) (p1_scratches_cells : Nat → Int32) (p2 : Int32) (p3 : Int32) (o0 : Int32) (hf : f_X5_areAtOnePlace p1_scratches_size n_p1_scratches_cells p1_scratches_cells p2 p3 = some o0) : CM l yX5_areAtOnePlace wsX5_areAtOnePlace rmX5_areAtOnePlace (kS te) dC dI cI cZ [.ref h_p1, .int p2, .int p3] [(h_p1, .inr (1, fX1 h_p1_surfaces h_p1_cliffs h_p1_boulders h_p1_scratches h_p1_numbers h_p1_facts h_p1_signs h_p1_areas h_p1_heights p1_ridges)), (h_p1_scratches, .inr (4, fX4 p1_scratches_limit h_p1_scratches_cells p1_scratches_size)), (h_p1_scratches_cells, .inl (cI, n_p1_scratches_cells, .inl p1_scratches_cells))] [(h_p1, .inr (1, fX1 h_p1_surfaces h_p1_cliffs h_p1_boulders h_p1_scratches h_p1_numbers h_p1_facts h_p1_signs h_p1_areas h_p1_heights p1_ridges)), (h_p1_scratches, .inr (4, fX4 p1_scratches_limit h_p1_scratches_cells p1_scratches_size)), (h_p1_scratches_cells, .inl (cI, n_p1_scratches_cells, .inl p1_scratches_cells))] (some (.int o0)) := by
  refine CM_of (cc := cX5_areAtOnePlace) (maxL := 3) (ret := (some .boolean)) (by decide +kernel) rfl (Nat.le_of_ble_eq_true rfl) ?_
  intro p e s m args below meth c A Q hx hb hr hml hown hts hlocks hA hK hP hD hS hE hQ hAe ls hl
  have hown : s.vm.findClass RX5 = some m.cls := hown
  have hl : lv_has ls 3 [(0, .ref h_p1), (1, .int p2), (2, .int p3)] := hl
  unfold f_X5_areAtOnePlace at hf
  refine lv_aload_n hx hb dX5_areAtOnePlace_0 rfl (lv_at hl 0 rfl) ?_
  refine va_get (D := (dC, dI)) (ci := 1) (v := .ref h_p1_scratches) (C := RX1) (T := TX1) (N := 10) hx hb hts kX5_areAtOnePlace_0 hown hK hP 0 rfl rfl 3 (by decide) (hts _ kX5_areAtOnePlace_1) (fun _ h9 => h9) rfl dX5_areAtOnePlace_1 ?_
  refine lv_iload_n hx hb dX5_areAtOnePlace_4 rfl (lv_at hl 1 rfl) ?_
  refine lv_iconst (v := (0 : Int32)) hx hb dX5_areAtOnePlace_5 (by decide) ?_
  obtain ⟨r1, hg2, hf⟩ := bd1_some hf
  refine CM_callV (C := RX4) (As := [.int p2, .int (0 : Int32)]) (rest := []) (wc := [(h_p1_scratches, .inr (4, fX4 p1_scratches_limit h_p1_scratches_cells p1_scratches_size)), (h_p1_scratches_cells, .inl (cI, n_p1_scratches_cells, .inl p1_scratches_cells))]) (w1 := [(h_p1_scratches, .inr (4, fX4 p1_scratches_limit h_p1_scratches_cells p1_scratches_size)), (h_p1_scratches_cells, .inl (cI, n_p1_scratches_cells, .inl p1_scratches_cells))]) (wr := [(h_p1, .inr (1, fX1 h_p1_surfaces h_p1_cliffs h_p1_boulders h_p1_scratches h_p1_numbers h_p1_facts h_p1_signs h_p1_areas h_p1_heights p1_ridges))]) (wo := [(h_p1, .inr (1, fX1 h_p1_surfaces h_p1_cliffs h_p1_boulders h_p1_scratches h_p1_numbers h_p1_facts h_p1_signs h_p1_areas h_p1_heights p1_ridges)), (h_p1_scratches, .inr (4, fX4 p1_scratches_limit h_p1_scratches_cells p1_scratches_size)), (h_p1_scratches_cells, .inl (cI, n_p1_scratches_cells, .inl p1_scratches_cells))]) (v := (some (.int r1))) ⟨hx, hb, hml, hown, hts⟩ (c_X4_cell l dC dI cI cZ te h_p1_scratches h_p1_scratches_cells p1_scratches_limit p1_scratches_size n_p1_scratches_cells p1_scratches_cells p2 (0 : Int32) r1 hg2) (cwV 2 hts gX5_areAtOnePlace_X4_cell rfl rfl rfl (by decide +kernel) ⟨Nat.le_of_ble_eq_true rfl, Nat.le_of_ble_eq_true rfl⟩) (kS_env te) hK hP hD hS hA hE [1, 2] [0] [0, 1, 2] rfl rfl (by decide) (by decide) (by decide) (by decide) rfl 1 4 rfl rfl rfl rfl hl.1 rfl (Nat.le_of_ble_eq_true rfl) dX5_areAtOnePlace_6 ⟨Nat.zero_le _, Nat.zero_le _⟩ (fun H locs hP hD hS => ?_)
  show W p l e rmX5_areAtOnePlace s m args below meth c H locs 0 0 Q (F0 m 9 ls [.int r1])
  refine lv_aload_n hx hb dX5_areAtOnePlace_9 rfl (lv_at hl 0 rfl) ?_
  refine va_get (D := (dC, dI)) (ci := 1) (v := .ref h_p1_scratches) (C := RX1) (T := TX1) (N := 10) hx hb hts kX5_areAtOnePlace_0 hown hK hP 0 rfl rfl 3 (by decide) (hts _ kX5_areAtOnePlace_1) (fun _ h9 => h9) rfl dX5_areAtOnePlace_10 ?_
  refine lv_iload_n hx hb dX5_areAtOnePlace_13 rfl (lv_at hl 2 rfl) ?_
  refine lv_iconst (v := (0 : Int32)) hx hb dX5_areAtOnePlace_14 (by decide) ?_
  obtain ⟨r3, hg4, hf⟩ := bd1_some hf
  refine CM_callV (C := RX4) (As := [.int p3, .int (0 : Int32)]) (rest := [.int r1]) (wc := [(h_p1_scratches, .inr (4, fX4 p1_scratches_limit h_p1_scratches_cells p1_scratches_size)), (h_p1_scratches_cells, .inl (cI, n_p1_scratches_cells, .inl p1_scratches_cells))]) (w1 := [(h_p1_scratches, .inr (4, fX4 p1_scratches_limit h_p1_scratches_cells p1_scratches_size)), (h_p1_scratches_cells, .inl (cI, n_p1_scratches_cells, .inl p1_scratches_cells))]) (wr := [(h_p1, .inr (1, fX1 h_p1_surfaces h_p1_cliffs h_p1_boulders h_p1_scratches h_p1_numbers h_p1_facts h_p1_signs h_p1_areas h_p1_heights p1_ridges))]) (wo := [(h_p1, .inr (1, fX1 h_p1_surfaces h_p1_cliffs h_p1_boulders h_p1_scratches h_p1_numbers h_p1_facts h_p1_signs h_p1_areas h_p1_heights p1_ridges)), (h_p1_scratches, .inr (4, fX4 p1_scratches_limit h_p1_scratches_cells p1_scratches_size)), (h_p1_scratches_cells, .inl (cI, n_p1_scratches_cells, .inl p1_scratches_cells))]) (v := (some (.int r3))) ⟨hx, hb, hml, hown, hts⟩ (c_X4_cell l dC dI cI cZ te h_p1_scratches h_p1_scratches_cells p1_scratches_limit p1_scratches_size n_p1_scratches_cells p1_scratches_cells p3 (0 : Int32) r3 hg4) (cwV 2 hts gX5_areAtOnePlace_X4_cell rfl rfl rfl (by decide +kernel) ⟨Nat.le_of_ble_eq_true rfl, Nat.le_of_ble_eq_true rfl⟩) (kS_env te) hK hP hD hS hA hE [1, 2] [0] [0, 1, 2] rfl rfl (by decide) (by decide) (by decide) (by decide) rfl 1 4 rfl rfl rfl rfl hl.1 rfl (Nat.le_of_ble_eq_true rfl) dX5_areAtOnePlace_15 ⟨Nat.zero_le _, Nat.zero_le _⟩ (fun H locs hP hD hS => ?_)
  show W p l e rmX5_areAtOnePlace s m args below meth c H locs 0 0 Q (F0 m 18 ls [.int r3, .int r1])
  refine lv_icmp_ne (tgt := 25) hx hb dX5_areAtOnePlace_18 (by decide) (fun c5 => ?_) (fun c5 => ?_)
  · replace hf := ifn c5 hf
    refine lv_iconst (v := (0 : Int32)) hx hb dX5_areAtOnePlace_25 (by decide) ?_
    obtain rfl := inj1 hf
    subst hQ
    exact CM_iret hx hb hr rfl hlocks hAe hP hD hS dX5_areAtOnePlace_26
  · replace hf := ifp c5 hf
    refine lv_iconst (v := (1 : Int32)) hx hb dX5_areAtOnePlace_21 (by decide) ?_
    refine lv_goto (tgt := 26) hx hb dX5_areAtOnePlace_22 (by decide) ?_
    obtain rfl := inj1 hf
    subst hQ
    exact CM_iret hx hb hr rfl hlocks hAe hP hD hS dX5_areAtOnePlace_26
