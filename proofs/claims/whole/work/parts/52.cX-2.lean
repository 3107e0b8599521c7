def rmX0_joinBest : Room := { frames := 4, cells := 0, slots := 0, locals := 95 }
abbrev wqX0_joinBest : List Cond := Cond.code yX0_joinBest cX0_joinBest 5 (some .boolean) :: tG
set_option maxHeartbeats 4000000 in
set_option maxRecDepth 100000 in
theorem c_X0_joinBest (l : Launch) (dC : Nat → ClassId) (dI : Nat → Nat → Nat) (cI cZ : ClassId) (te : Nat → Nat) (h_t : Nat) (h_p1 : Nat) (h_p1_surfaces : Nat) (h_p1_cliffs : Nat) (h_p1_boulders : Nat) (h_p1_scratches : Nat) (h_p1_numbers : Nat) (h_p1_facts : Nat) (h_p1_signs : Nat) (h_p1_areas : Nat) (h_p1_heights : Nat) (h_t_least : Nat) (h_t_greatest : Nat) (h_t_leastBefore : Nat) (h_t_greatestBefore : Nat) (h_t_ridgeOf : Nat) (h_t_olderOf : Nat) (h_t_lowOf : Nat) (h_t_highOf : Nat) (h_t_cutsBetween : Nat) (h_t_soughtFor : Nat) (h_p1_facts_cells : Nat) (h_t_soughtFor_cells : Nat) (p1_ridges : Int32) (p1_numbers : Nat → Int32) (t_taken : Int32) (t_soughtSlow : Int32) (t_soughtFast : Int32) (t_lastLeftOut : Int32) (p1_facts_limit : Int32) (p1_facts_size : Int32) (n_p1_facts_cells : Nat) (p1_facts_cells : Nat → Int32) (t_ridgeOf : Nat → Int32) (t_olderOf : Nat → Int32) (t_lowOf : Nat → Int32) (t_highOf : Nat → Int32) (t_least : Nat → Int32) (t_greatest : Nat → Int32) (t_soughtFor_limit : Int32) (t_soughtFor_size : Int32) (n_t_soughtFor_cells : Nat) (t_soughtFor_cells : Nat → Int32) (t_cutsBetween : Nat → Int32) (o0 : Int32) (o1 : Int32) (o2 : Int32) (o3 : Int32) (o4 : Int32) (o5 : Nat → Int32) (o6 : Nat → Int32) (o7 : Nat → Int32) (o8 : Nat → Int32) (o9 : Nat → Int32) (o10 : Nat → Int32) (o11 : Int32) (o12 : Nat → Int32) (o13 : Nat → Int32) (hf : f_X0_joinBest p1_numbers t_taken t_soughtSlow t_soughtFast t_lastLeftOut p1_facts_size n_p1_facts_cells p1_facts_cells t_ridgeOf t_olderOf t_lowOf t_highOf t_least t_greatest t_soughtFor_limit t_soughtFor_size n_t_soughtFor_cells t_soughtFor_cells t_cutsBetween = some (o0, o1, o2, o3, o4, o5, o6, o7, o8, o9, o10, o11, o12, o13)) : CM l yX0_joinBest wqX0_joinBest rmX0_joinBest (kS te) dC dI cI cZ [.ref h_t, .ref h_p1] [(h_p1, .inr (1, fX1 h_p1_surfaces h_p1_cliffs h_p1_boulders h_p1_scratches h_p1_numbers h_p1_facts h_p1_signs h_p1_areas h_p1_heights p1_ridges)), (h_p1_numbers, .inl (cI, 6, .inl p1_numbers)), (h_t, .inr (0, fX0 h_t_least h_t_greatest h_t_leastBefore h_t_greatestBefore h_t_ridgeOf h_t_olderOf h_t_lowOf h_t_highOf t_taken h_t_cutsBetween h_t_soughtFor t_soughtSlow t_soughtFast t_lastLeftOut)), (h_p1_facts, .inr (4, fX4 p1_facts_limit h_p1_facts_cells p1_facts_size)), (h_p1_facts_cells, .inl (cI, n_p1_facts_cells, .inl p1_facts_cells)), (h_t_ridgeOf, .inl (cI, 16, .inl t_ridgeOf)), (h_t_olderOf, .inl (cI, 16, .inl t_olderOf)), (h_t_lowOf, .inl (cI, 16, .inl t_lowOf)), (h_t_highOf, .inl (cI, 16, .inl t_highOf)), (h_t_least, .inl (cI, 8, .inl t_least)), (h_t_greatest, .inl (cI, 8, .inl t_greatest)), (h_t_soughtFor, .inr (4, fX4 t_soughtFor_limit h_t_soughtFor_cells t_soughtFor_size)), (h_t_soughtFor_cells, .inl (cI, n_t_soughtFor_cells, .inl t_soughtFor_cells)), (h_t_cutsBetween, .inl (cI, 64, .inl t_cutsBetween))] [(h_p1, .inr (1, fX1 h_p1_surfaces h_p1_cliffs h_p1_boulders h_p1_scratches h_p1_numbers h_p1_facts h_p1_signs h_p1_areas h_p1_heights p1_ridges)), (h_p1_numbers, .inl (cI, 6, .inl p1_numbers)), (h_t, .inr (0, fX0 h_t_least h_t_greatest h_t_leastBefore h_t_greatestBefore h_t_ridgeOf h_t_olderOf h_t_lowOf h_t_highOf o1 h_t_cutsBetween h_t_soughtFor o2 o3 o4)), (h_p1_facts, .inr (4, fX4 p1_facts_limit h_p1_facts_cells p1_facts_size)), (h_p1_facts_cells, .inl (cI, n_p1_facts_cells, .inl p1_facts_cells)), (h_t_ridgeOf, .inl (cI, 16, .inl o5)), (h_t_olderOf, .inl (cI, 16, .inl o6)), (h_t_lowOf, .inl (cI, 16, .inl o7)), (h_t_highOf, .inl (cI, 16, .inl o8)), (h_t_least, .inl (cI, 8, .inl o9)), (h_t_greatest, .inl (cI, 8, .inl o10)), (h_t_soughtFor, .inr (4, fX4 t_soughtFor_limit h_t_soughtFor_cells o11)), (h_t_soughtFor_cells, .inl (cI, n_t_soughtFor_cells, .inl o12)), (h_t_cutsBetween, .inl (cI, 64, .inl o13))] (some (.int o0)) := by
  refine CM_of (cc := cX0_joinBest) (maxL := 5) (ret := (some .boolean)) (by decide +kernel) rfl (Nat.le_of_ble_eq_true rfl) ?_
  intro p e s m args below meth c A Q hx hb hr hml hown hts hlocks hA hK hP hD hS hE hQ hAe ls hl
  have hown : s.vm.findClass RX0 = some m.cls := hown
  have hl : lv_has ls 5 [(0, .ref h_t), (1, .ref h_p1)] := hl
  unfold f_X0_joinBest at hf
  refine lv_aload_n hx hb dX0_joinBest_0 rfl (lv_at hl 0 rfl) ?_
  refine lv_aload_n hx hb dX0_joinBest_1 rfl (lv_at hl 1 rfl) ?_
  obtain ⟨r1, x2, x3, x4, x5, y6, y7, y8, y9, y10, y11, x12, y13, hg14, hf⟩ := bd13_some hf
  refine CM_callV (C := RX0) (As := [.ref h_p1]) (rest := []) (wc := [(h_p1, .inr (1, fX1 h_p1_surfaces h_p1_cliffs h_p1_boulders h_p1_scratches h_p1_numbers h_p1_facts h_p1_signs h_p1_areas h_p1_heights p1_ridges)), (h_p1_numbers, .inl (cI, 6, .inl p1_numbers)), (h_t, .inr (0, fX0 h_t_least h_t_greatest h_t_leastBefore h_t_greatestBefore h_t_ridgeOf h_t_olderOf h_t_lowOf h_t_highOf t_taken h_t_cutsBetween h_t_soughtFor t_soughtSlow t_soughtFast t_lastLeftOut)), (h_p1_facts, .inr (4, fX4 p1_facts_limit h_p1_facts_cells p1_facts_size)), (h_p1_facts_cells, .inl (cI, n_p1_facts_cells, .inl p1_facts_cells)), (h_t_ridgeOf, .inl (cI, 16, .inl t_ridgeOf)), (h_t_olderOf, .inl (cI, 16, .inl t_olderOf)), (h_t_lowOf, .inl (cI, 16, .inl t_lowOf)), (h_t_highOf, .inl (cI, 16, .inl t_highOf)), (h_t_least, .inl (cI, 8, .inl t_least)), (h_t_greatest, .inl (cI, 8, .inl t_greatest)), (h_t_soughtFor, .inr (4, fX4 t_soughtFor_limit h_t_soughtFor_cells t_soughtFor_size)), (h_t_soughtFor_cells, .inl (cI, n_t_soughtFor_cells, .inl t_soughtFor_cells))]) (w1 := [(h_p1, .inr (1, fX1 h_p1_surfaces h_p1_cliffs h_p1_boulders h_p1_scratches h_p1_numbers h_p1_facts h_p1_signs h_p1_areas h_p1_heights p1_ridges)), (h_p1_numbers, .inl (cI, 6, .inl p1_numbers)), (h_t, .inr (0, fX0 h_t_least h_t_greatest h_t_leastBefore h_t_greatestBefore h_t_ridgeOf h_t_olderOf h_t_lowOf h_t_highOf x2 h_t_cutsBetween h_t_soughtFor x3 x4 x5)), (h_p1_facts, .inr (4, fX4 p1_facts_limit h_p1_facts_cells p1_facts_size)), (h_p1_facts_cells, .inl (cI, n_p1_facts_cells, .inl p1_facts_cells)), (h_t_ridgeOf, .inl (cI, 16, .inl y6)), (h_t_olderOf, .inl (cI, 16, .inl y7)), (h_t_lowOf, .inl (cI, 16, .inl y8)), (h_t_highOf, .inl (cI, 16, .inl y9)), (h_t_least, .inl (cI, 8, .inl y10)), (h_t_greatest, .inl (cI, 8, .inl y11)), (h_t_soughtFor, .inr (4, fX4 t_soughtFor_limit h_t_soughtFor_cells x12)), (h_t_soughtFor_cells, .inl (cI, n_t_soughtFor_cells, .inl y13))]) (wr := [(h_t_cutsBetween, .inl (cI, 64, .inl t_cutsBetween))]) (wo := [(h_p1, .inr (1, fX1 h_p1_surfaces h_p1_cliffs h_p1_boulders h_p1_scratches h_p1_numbers h_p1_facts h_p1_signs h_p1_areas h_p1_heights p1_ridges)), (h_p1_numbers, .inl (cI, 6, .inl p1_numbers)), (h_t, .inr (0, fX0 h_t_least h_t_greatest h_t_leastBefore h_t_greatestBefore h_t_ridgeOf h_t_olderOf h_t_lowOf h_t_highOf x2 h_t_cutsBetween h_t_soughtFor x3 x4 x5)), (h_p1_facts, .inr (4, fX4 p1_facts_limit h_p1_facts_cells p1_facts_size)), (h_p1_facts_cells, .inl (cI, n_p1_facts_cells, .inl p1_facts_cells)), (h_t_ridgeOf, .inl (cI, 16, .inl y6)), (h_t_olderOf, .inl (cI, 16, .inl y7)), (h_t_lowOf, .inl (cI, 16, .inl y8)), (h_t_highOf, .inl (cI, 16, .inl y9)), (h_t_least, .inl (cI, 8, .inl y10)), (h_t_greatest, .inl (cI, 8, .inl y11)), (h_t_soughtFor, .inr (4, fX4 t_soughtFor_limit h_t_soughtFor_cells x12)), (h_t_soughtFor_cells, .inl (cI, n_t_soughtFor_cells, .inl y13)), (h_t_cutsBetween, .inl (cI, 64, .inl t_cutsBetween))]) (v := (some (.int r1))) ⟨hx, hb, hml, hown, hts⟩ (c_X0_leftOut l dC dI cI cZ te h_t h_p1 h_p1_surfaces h_p1_cliffs h_p1_boulders h_p1_scratches h_p1_numbers h_p1_facts h_p1_signs h_p1_areas h_p1_heights h_t_least h_t_greatest h_t_leastBefore h_t_greatestBefore h_t_ridgeOf h_t_olderOf h_t_lowOf h_t_highOf h_t_cutsBetween h_t_soughtFor h_p1_facts_cells h_t_soughtFor_cells p1_ridges p1_numbers t_taken t_soughtSlow t_soughtFast t_lastLeftOut p1_facts_limit p1_facts_size n_p1_facts_cells p1_facts_cells t_ridgeOf t_olderOf t_lowOf t_highOf t_least t_greatest t_soughtFor_limit t_soughtFor_size n_t_soughtFor_cells t_soughtFor_cells r1 x2 x3 x4 x5 y6 y7 y8 y9 y10 y11 x12 y13 hg14) (cwV 1 hts (gV kw_473 kw_474 kw_475 kw_88 kw_476) rfl rfl rfl (by decide +kernel) ⟨Nat.le_of_ble_eq_true rfl, Nat.le_of_ble_eq_true rfl⟩) (kS_env te) hK hP hD hS hA hE [0, 1, 2, 3, 4, 5, 6, 7, 8, 9, 10, 11, 12] [13] [1, 2, 3, 4, 5, 6, 7, 8, 9, 10, 11, 12, 13, 0] rfl rfl (by decide) (by decide) (by decide) (by decide) rfl 2 0 rfl rfl rfl rfl hl.1 rfl (Nat.le_of_ble_eq_true rfl) dX0_joinBest_2 ⟨Nat.zero_le _, Nat.zero_le _⟩ (fun H locs hP hD hS => ?_)
  show W p l e rmX0_joinBest s m args below meth c H locs 0 0 Q (F0 m 5 ls [.int r1])
  refine lv_istore_n (lv' := [(2, .int r1), (0, .ref h_t), (1, .ref h_p1)]) hx hb dX0_joinBest_5 rfl hl (by decide) rfl (fun ls hl => ?_)
  refine lv_iload_n hx hb dX0_joinBest_6 rfl (lv_at hl 0 rfl) ?_
  refine lv_bipush (v := (-5 : Int32)) hx hb dX0_joinBest_7 (by decide) ?_
  refine lv_icmp_ne (tgt := 14) hx hb dX0_joinBest_9 (by decide) (fun c15 => ?_) (fun c15 => ?_)
  · replace hf := ifn c15 hf
    refine lv_aload_n hx hb dX0_joinBest_14 rfl (lv_at hl 2 rfl) ?_
    obtain ⟨r16, hg17, hf⟩ := bd1_some hf
    refine CM_callS (As := [.ref h_p1]) (rest := []) (wc := [(h_p1, .inr (1, fX1 h_p1_surfaces h_p1_cliffs h_p1_boulders h_p1_scratches h_p1_numbers h_p1_facts h_p1_signs h_p1_areas h_p1_heights p1_ridges)), (h_p1_facts, .inr (4, fX4 p1_facts_limit h_p1_facts_cells p1_facts_size))]) (w1 := [(h_p1, .inr (1, fX1 h_p1_surfaces h_p1_cliffs h_p1_boulders h_p1_scratches h_p1_numbers h_p1_facts h_p1_signs h_p1_areas h_p1_heights p1_ridges)), (h_p1_facts, .inr (4, fX4 p1_facts_limit h_p1_facts_cells p1_facts_size))]) (wr := [(h_p1_numbers, .inl (cI, 6, .inl p1_numbers)), (h_t, .inr (0, fX0 h_t_least h_t_greatest h_t_leastBefore h_t_greatestBefore h_t_ridgeOf h_t_olderOf h_t_lowOf h_t_highOf x2 h_t_cutsBetween h_t_soughtFor x3 x4 x5)), (h_p1_facts_cells, .inl (cI, n_p1_facts_cells, .inl p1_facts_cells)), (h_t_ridgeOf, .inl (cI, 16, .inl y6)), (h_t_olderOf, .inl (cI, 16, .inl y7)), (h_t_lowOf, .inl (cI, 16, .inl y8)), (h_t_highOf, .inl (cI, 16, .inl y9)), (h_t_least, .inl (cI, 8, .inl y10)), (h_t_greatest, .inl (cI, 8, .inl y11)), (h_t_soughtFor, .inr (4, fX4 t_soughtFor_limit h_t_soughtFor_cells x12)), (h_t_soughtFor_cells, .inl (cI, n_t_soughtFor_cells, .inl y13)), (h_t_cutsBetween, .inl (cI, 64, .inl t_cutsBetween))]) (wo := [(h_p1, .inr (1, fX1 h_p1_surfaces h_p1_cliffs h_p1_boulders h_p1_scratches h_p1_numbers h_p1_facts h_p1_signs h_p1_areas h_p1_heights p1_ridges)), (h_p1_numbers, .inl (cI, 6, .inl p1_numbers)), (h_t, .inr (0, fX0 h_t_least h_t_greatest h_t_leastBefore h_t_greatestBefore h_t_ridgeOf h_t_olderOf h_t_lowOf h_t_highOf x2 h_t_cutsBetween h_t_soughtFor x3 x4 x5)), (h_p1_facts, .inr (4, fX4 p1_facts_limit h_p1_facts_cells p1_facts_size)), (h_p1_facts_cells, .inl (cI, n_p1_facts_cells, .inl p1_facts_cells)), (h_t_ridgeOf, .inl (cI, 16, .inl y6)), (h_t_olderOf, .inl (cI, 16, .inl y7)), (h_t_lowOf, .inl (cI, 16, .inl y8)), (h_t_highOf, .inl (cI, 16, .inl y9)), (h_t_least, .inl (cI, 8, .inl y10)), (h_t_greatest, .inl (cI, 8, .inl y11)), (h_t_soughtFor, .inr (4, fX4 t_soughtFor_limit h_t_soughtFor_cells x12)), (h_t_soughtFor_cells, .inl (cI, n_t_soughtFor_cells, .inl y13)), (h_t_cutsBetween, .inl (cI, 64, .inl t_cutsBetween))]) (v := (some (.int r16))) ⟨hx, hb, hml, hown, hts⟩ (c_X0_bitsOfAll l dC dI cI cZ te h_p1 h_p1_surfaces h_p1_cliffs h_p1_boulders h_p1_scratches h_p1_numbers h_p1_facts h_p1_signs h_p1_areas h_p1_heights h_p1_facts_cells p1_ridges p1_facts_limit p1_facts_size r16 hg17) (va_cwS 1 hts (gS kw_452 kw_453 kw_88 kw_454) rfl rfl rfl (by decide +kernel) ⟨Nat.le_of_ble_eq_true rfl, Nat.le_of_ble_eq_true rfl⟩) (kS_env te) hK hP hD hS hA hE [0, 3] [1, 2, 4, 5, 6, 7, 8, 9, 10, 11, 12, 13] [12, 0, 1, 13, 2, 3, 4, 5, 6, 7, 8, 9, 10, 11] rfl rfl (by decide) (by decide) (by decide) (by decide) rfl rfl hl.1 rfl (Nat.le_of_ble_eq_true rfl) dX0_joinBest_15 ⟨Nat.zero_le _, Nat.zero_le _⟩ (fun H locs hP hD hS => ?_)
    show W p l e rmX0_joinBest s m args below meth c H locs 0 0 Q (F0 m 18 ls [.int r16])
    refine lv_iload_n hx hb dX0_joinBest_18 rfl (lv_at hl 0 rfl) ?_
    refine lv_iconst (v := (-1 : Int32)) hx hb dX0_joinBest_19 (by decide) ?_
    refine lv_ixor hx hb dX0_joinBest_20 ?_
    refine lv_iand hx hb dX0_joinBest_21 ?_
    obtain ⟨x18, e19, hf⟩ := nm_some hf
    refine lv_tope e19 ?_
    refine lv_istore_n (lv' := [(3, .int x18), (2, .int r1), (0, .ref h_t), (1, .ref h_p1)]) hx hb dX0_joinBest_22 rfl hl (by decide) rfl (fun ls hl => ?_)
    refine lv_aload_n hx hb dX0_joinBest_23 rfl (lv_at hl 2 rfl) ?_
    refine lv_aload_n hx hb dX0_joinBest_24 rfl (lv_at hl 3 rfl) ?_
    refine lv_iload_n hx hb dX0_joinBest_25 rfl (lv_at hl 0 rfl) ?_
    obtain ⟨r20, x21, y22, y23, y24, y25, y26, y27, hg28, hf⟩ := bd8_some hf
    refine CM_callV (C := RX0) (As := [.ref h_p1, .int x18]) (rest := []) (wc := [(h_p1, .inr (1, fX1 h_p1_surfaces h_p1_cliffs h_p1_boulders h_p1_scratches h_p1_numbers h_p1_facts h_p1_signs h_p1_areas h_p1_heights p1_ridges)), (h_p1_facts, .inr (4, fX4 p1_facts_limit h_p1_facts_cells p1_facts_size)), (h_t, .inr (0, fX0 h_t_least h_t_greatest h_t_leastBefore h_t_greatestBefore h_t_ridgeOf h_t_olderOf h_t_lowOf h_t_highOf x2 h_t_cutsBetween h_t_soughtFor x3 x4 x5)), (h_p1_facts_cells, .inl (cI, n_p1_facts_cells, .inl p1_facts_cells)), (h_t_ridgeOf, .inl (cI, 16, .inl y6)), (h_t_olderOf, .inl (cI, 16, .inl y7)), (h_t_lowOf, .inl (cI, 16, .inl y8)), (h_t_highOf, .inl (cI, 16, .inl y9)), (h_p1_numbers, .inl (cI, 6, .inl p1_numbers)), (h_t_least, .inl (cI, 8, .inl y10)), (h_t_greatest, .inl (cI, 8, .inl y11))]) (w1 := [(h_p1, .inr (1, fX1 h_p1_surfaces h_p1_cliffs h_p1_boulders h_p1_scratches h_p1_numbers h_p1_facts h_p1_signs h_p1_areas h_p1_heights p1_ridges)), (h_p1_facts, .inr (4, fX4 p1_facts_limit h_p1_facts_cells p1_facts_size)), (h_t, .inr (0, fX0 h_t_least h_t_greatest h_t_leastBefore h_t_greatestBefore h_t_ridgeOf h_t_olderOf h_t_lowOf h_t_highOf x21 h_t_cutsBetween h_t_soughtFor x3 x4 x5)), (h_p1_facts_cells, .inl (cI, n_p1_facts_cells, .inl p1_facts_cells)), (h_t_ridgeOf, .inl (cI, 16, .inl y22)), (h_t_olderOf, .inl (cI, 16, .inl y23)), (h_t_lowOf, .inl (cI, 16, .inl y24)), (h_t_highOf, .inl (cI, 16, .inl y25)), (h_p1_numbers, .inl (cI, 6, .inl p1_numbers)), (h_t_least, .inl (cI, 8, .inl y26)), (h_t_greatest, .inl (cI, 8, .inl y27))]) (wr := [(h_t_soughtFor, .inr (4, fX4 t_soughtFor_limit h_t_soughtFor_cells x12)), (h_t_soughtFor_cells, .inl (cI, n_t_soughtFor_cells, .inl y13)), (h_t_cutsBetween, .inl (cI, 64, .inl t_cutsBetween))]) (wo := [(h_p1, .inr (1, fX1 h_p1_surfaces h_p1_cliffs h_p1_boulders h_p1_scratches h_p1_numbers h_p1_facts h_p1_signs h_p1_areas h_p1_heights p1_ridges)), (h_p1_numbers, .inl (cI, 6, .inl p1_numbers)), (h_t, .inr (0, fX0 h_t_least h_t_greatest h_t_leastBefore h_t_greatestBefore h_t_ridgeOf h_t_olderOf h_t_lowOf h_t_highOf x21 h_t_cutsBetween h_t_soughtFor x3 x4 x5)), (h_p1_facts, .inr (4, fX4 p1_facts_limit h_p1_facts_cells p1_facts_size)), (h_p1_facts_cells, .inl (cI, n_p1_facts_cells, .inl p1_facts_cells)), (h_t_ridgeOf, .inl (cI, 16, .inl y22)), (h_t_olderOf, .inl (cI, 16, .inl y23)), (h_t_lowOf, .inl (cI, 16, .inl y24)), (h_t_highOf, .inl (cI, 16, .inl y25)), (h_t_least, .inl (cI, 8, .inl y26)), (h_t_greatest, .inl (cI, 8, .inl y27)), (h_t_soughtFor, .inr (4, fX4 t_soughtFor_limit h_t_soughtFor_cells x12)), (h_t_soughtFor_cells, .inl (cI, n_t_soughtFor_cells, .inl y13)), (h_t_cutsBetween, .inl (cI, 64, .inl t_cutsBetween))]) (v := (some (.int r20))) ⟨hx, hb, hml, hown, hts⟩ (c_X0_joinBy l dC dI cI cZ te h_t h_p1 h_p1_surfaces h_p1_cliffs h_p1_boulders h_p1_scratches h_p1_numbers h_p1_facts h_p1_signs h_p1_areas h_p1_heights h_p1_facts_cells h_t_least h_t_greatest h_t_leastBefore h_t_greatestBefore h_t_ridgeOf h_t_olderOf h_t_lowOf h_t_highOf h_t_cutsBetween h_t_soughtFor p1_ridges p1_facts_limit p1_facts_size x2 x3 x4 x5 n_p1_facts_cells p1_facts_cells y6 y7 y8 y9 p1_numbers y10 y11 x18 r20 x21 y22 y23 y24 y25 y26 y27 hg28) (cwV 2 hts (gV kw_477 kw_478 kw_479 kw_88 kw_480) rfl rfl rfl (by decide +kernel) ⟨Nat.le_of_ble_eq_true rfl, Nat.le_of_ble_eq_true rfl⟩) (kS_env te) hK hP hD hS hA hE [0, 3, 2, 4, 5, 6, 7, 8, 1, 9, 10] [11, 12, 13] [3, 11, 5, 4, 6, 7, 8, 9, 10, 12, 13, 0, 1, 2] rfl rfl (by decide) (by decide) (by decide) (by decide) rfl 2 0 rfl rfl rfl rfl hl.1 rfl (Nat.le_of_ble_eq_true rfl) dX0_joinBest_26 ⟨Nat.zero_le _, Nat.zero_le _⟩ (fun H locs hP hD hS => ?_)
    show W p l e rmX0_joinBest s m args below meth c H locs 0 0 Q (F0 m 29 ls [.int r20])
    refine lv_istore (lv' := [(4, .int r20), (3, .int x18), (2, .int r1), (0, .ref h_t), (1, .ref h_p1)]) hx hb dX0_joinBest_29 hl (by decide) rfl (fun ls hl => ?_)
    refine lv_aload_n hx hb dX0_joinBest_31 rfl (lv_at hl 3 rfl) ?_
    refine lv_iload_n hx hb dX0_joinBest_32 rfl (lv_at hl 1 rfl) ?_
    obtain ⟨y29, hg30, hf⟩ := bd1_some hf
    refine CM_callV (C := RX0) (As := [.int x18]) (rest := []) (wc := [(h_t, .inr (0, fX0 h_t_least h_t_greatest h_t_leastBefore h_t_greatestBefore h_t_ridgeOf h_t_olderOf h_t_lowOf h_t_highOf x21 h_t_cutsBetween h_t_soughtFor x3 x4 x5)), (h_t_cutsBetween, .inl (cI, 64, .inl t_cutsBetween)), (h_t_olderOf, .inl (cI, 16, .inl y23)), (h_t_ridgeOf, .inl (cI, 16, .inl y22))]) (w1 := [(h_t, .inr (0, fX0 h_t_least h_t_greatest h_t_leastBefore h_t_greatestBefore h_t_ridgeOf h_t_olderOf h_t_lowOf h_t_highOf x21 h_t_cutsBetween h_t_soughtFor x3 x4 x5)), (h_t_cutsBetween, .inl (cI, 64, .inl y29)), (h_t_olderOf, .inl (cI, 16, .inl y23)), (h_t_ridgeOf, .inl (cI, 16, .inl y22))]) (wr := [(h_p1, .inr (1, fX1 h_p1_surfaces h_p1_cliffs h_p1_boulders h_p1_scratches h_p1_numbers h_p1_facts h_p1_signs h_p1_areas h_p1_heights p1_ridges)), (h_p1_numbers, .inl (cI, 6, .inl p1_numbers)), (h_p1_facts, .inr (4, fX4 p1_facts_limit h_p1_facts_cells p1_facts_size)), (h_p1_facts_cells, .inl (cI, n_p1_facts_cells, .inl p1_facts_cells)), (h_t_lowOf, .inl (cI, 16, .inl y24)), (h_t_highOf, .inl (cI, 16, .inl y25)), (h_t_least, .inl (cI, 8, .inl y26)), (h_t_greatest, .inl (cI, 8, .inl y27)), (h_t_soughtFor, .inr (4, fX4 t_soughtFor_limit h_t_soughtFor_cells x12)), (h_t_soughtFor_cells, .inl (cI, n_t_soughtFor_cells, .inl y13))]) (wo := [(h_p1, .inr (1, fX1 h_p1_surfaces h_p1_cliffs h_p1_boulders h_p1_scratches h_p1_numbers h_p1_facts h_p1_signs h_p1_areas h_p1_heights p1_ridges)), (h_p1_numbers, .inl (cI, 6, .inl p1_numbers)), (h_t, .inr (0, fX0 h_t_least h_t_greatest h_t_leastBefore h_t_greatestBefore h_t_ridgeOf h_t_olderOf h_t_lowOf h_t_highOf x21 h_t_cutsBetween h_t_soughtFor x3 x4 x5)), (h_p1_facts, .inr (4, fX4 p1_facts_limit h_p1_facts_cells p1_facts_size)), (h_p1_facts_cells, .inl (cI, n_p1_facts_cells, .inl p1_facts_cells)), (h_t_ridgeOf, .inl (cI, 16, .inl y22)), (h_t_olderOf, .inl (cI, 16, .inl y23)), (h_t_lowOf, .inl (cI, 16, .inl y24)), (h_t_highOf, .inl (cI, 16, .inl y25)), (h_t_least, .inl (cI, 8, .inl y26)), (h_t_greatest, .inl (cI, 8, .inl y27)), (h_t_soughtFor, .inr (4, fX4 t_soughtFor_limit h_t_soughtFor_cells x12)), (h_t_soughtFor_cells, .inl (cI, n_t_soughtFor_cells, .inl y13)), (h_t_cutsBetween, .inl (cI, 64, .inl y29))]) (v := (none)) ⟨hx, hb, hml, hown, hts⟩ (c_X0_countCuts l dC dI cI cZ te h_t h_t_least h_t_greatest h_t_leastBefore h_t_greatestBefore h_t_ridgeOf h_t_olderOf h_t_lowOf h_t_highOf h_t_cutsBetween h_t_soughtFor x21 x3 x4 x5 t_cutsBetween y23 y22 x18 y29 hg30) (cwV 1 hts (gV kw_481 kw_482 kw_483 kw_88 kw_484) rfl rfl rfl (by decide +kernel) ⟨Nat.le_of_ble_eq_true rfl, Nat.le_of_ble_eq_true rfl⟩) (kS_env te) hK hP hD hS hA hE [2, 13, 6, 5] [0, 1, 3, 4, 7, 8, 9, 10, 11, 12] [0, 1, 10, 2, 3, 13, 12, 4, 5, 6, 7, 8, 9, 11] rfl rfl (by decide) (by decide) (by decide) (by decide) rfl 2 0 rfl rfl rfl rfl hl.1 rfl (Nat.le_of_ble_eq_true rfl) dX0_joinBest_33 ⟨Nat.zero_le _, Nat.zero_le _⟩ (fun H locs hP hD hS => ?_)
    show W p l e rmX0_joinBest s m args below meth c H locs 0 0 Q (F0 m 36 ls [])
    refine lv_iload hx hb dX0_joinBest_36 (lv_at hl 0 rfl) ?_
    obtain ⟨g31, hf⟩ := chk_some hf
    obtain ⟨rfl, rfl, rfl, rfl, rfl, rfl, rfl, rfl, rfl, rfl, rfl, rfl, rfl, rfl⟩ := inj14 hf
    subst hQ
    exact CM_iret hx hb hr (gz_n g31) hlocks hAe hP hD hS dX0_joinBest_38
  · replace hf := ifp c15 hf
    refine lv_iconst (v := (0 : Int32)) hx hb dX0_joinBest_12 (by decide) ?_
    obtain ⟨rfl, rfl, rfl, rfl, rfl, rfl, rfl, rfl, rfl, rfl, rfl, rfl, rfl, rfl⟩ := inj14 hf
    subst hQ
    exact CM_iret hx hb hr rfl hlocks hAe hP hD hS dX0_joinBest_13
def rmX0_leastOf : Room := { frames := 0, cells := 0, slots := 0, locals := 0 }
abbrev wqX0_leastOf : List Cond := Cond.code yX0_leastOf cX0_leastOf 2 (some .int) :: tG
set_option maxHeartbeats 4000000 in
set_option maxRecDepth 100000 in
theorem c_X0_leastOf (l : Launch) (dC : Nat → ClassId) (dI : Nat → Nat → Nat) (cI cZ : ClassId) (te : Nat → Nat) (h_t : Nat) (h_t_least : Nat) (h_t_greatest : Nat) (h_t_leastBefore : Nat) (h_t_greatestBefore : Nat) (h_t_ridgeOf : Nat) (h_t_olderOf : Nat) (h_t_lowOf : Nat) (h_t_highOf : Nat) (h_t_cutsBetween : Nat) (h_t_soughtFor : Nat) (t_taken : Int32) (t_soughtSlow : Int32) (t_soughtFast : Int32) (t_lastLeftOut : Int32) (t_least : Nat → Int32) (p1 : Int32) (o0 : Int32) (hf : f_X0_leastOf t_least p1 = some o0) : CM l yX0_leastOf wqX0_leastOf rmX0_leastOf (kS te) dC dI cI cZ [.ref h_t, .int p1] [(h_t, .inr (0, fX0 h_t_least h_t_greatest h_t_leastBefore h_t_greatestBefore h_t_ridgeOf h_t_olderOf h_t_lowOf h_t_highOf t_taken h_t_cutsBetween h_t_soughtFor t_soughtSlow t_soughtFast t_lastLeftOut)), (h_t_least, .inl (cI, 8, .inl t_least))] [(h_t, .inr (0, fX0 h_t_least h_t_greatest h_t_leastBefore h_t_greatestBefore h_t_ridgeOf h_t_olderOf h_t_lowOf h_t_highOf t_taken h_t_cutsBetween h_t_soughtFor t_soughtSlow t_soughtFast t_lastLeftOut)), (h_t_least, .inl (cI, 8, .inl t_least))] (some (.int o0)) := by
  refine CM_of (cc := cX0_leastOf) (maxL := 2) (ret := (some .int)) (by decide +kernel) rfl (Nat.le_of_ble_eq_true rfl) ?_
  intro p e s m args below meth c A Q hx hb hr hml hown hts hlocks hA hK hP hD hS hE hQ hAe ls hl
  have hown : s.vm.findClass RX0 = some m.cls := hown
  have hl : lv_has ls 2 [(0, .ref h_t), (1, .int p1)] := hl
  unfold f_X0_leastOf at hf
  refine lv_iload_n hx hb dX0_leastOf_0 rfl (lv_at hl 1 rfl) ?_
  refine lv_if_lt (tgt := 19) hx hb dX0_leastOf_1 (by decide) (fun c1 => ?_) (fun c1 => ?_)
  · replace hf := ifp c1 hf
    refine lv_iconst (v := (-1 : Int32)) hx hb dX0_leastOf_19 (by decide) ?_
    obtain rfl := inj1 hf
    subst hQ
    exact CM_iret hx hb hr rfl hlocks hAe hP hD hS dX0_leastOf_20
  · replace hf := ifn c1 hf
    refine lv_iload_n hx hb dX0_leastOf_4 rfl (lv_at hl 1 rfl) ?_
    refine lv_bipush (v := (8 : Int32)) hx hb dX0_leastOf_5 (by decide) ?_
    refine lv_icmp_ge (tgt := 19) hx hb dX0_leastOf_7 (by decide) (fun c2 => ?_) (fun c2 => ?_)
    · replace hf := ifp c2 hf
      refine lv_iconst (v := (-1 : Int32)) hx hb dX0_leastOf_19 (by decide) ?_
      obtain rfl := inj1 hf
      subst hQ
      exact CM_iret hx hb hr rfl hlocks hAe hP hD hS dX0_leastOf_20
    · replace hf := ifn c2 hf
      refine lv_aload_n hx hb dX0_leastOf_10 rfl (lv_at hl 0 rfl) ?_
      refine va_get (D := (dC, dI)) (ci := 0) (v := .ref h_t_least) (C := RX0) (T := TX0) (N := 14) hx hb hts (in1 tw_X0) hown hK hP 0 rfl rfl 0 (by decide) (hts _ (List.mem_cons_of_mem _ kw_38)) (fun _ h9 => h9) rfl dX0_leastOf_11 ?_
      refine lv_iload_n hx hb dX0_leastOf_14 rfl (lv_at hl 1 rfl) ?_
      obtain ⟨g3, hf⟩ := chk_some hf
      refine va_iald hx hb hK hP 1 0 rfl rfl (gin_in g3) dX0_leastOf_15 ?_
      refine lv_goto (tgt := 20) hx hb dX0_leastOf_16 (by decide) ?_
      obtain rfl := inj1 hf
      subst hQ
      exact CM_iret hx hb hr rfl hlocks hAe hP hD hS dX0_leastOf_20
def rmX0_greatestOf : Room := { frames := 0, cells := 0, slots := 0, locals := 0 }
abbrev wqX0_greatestOf : List Cond := Cond.code yX0_greatestOf cX0_greatestOf 2 (some .int) :: tG
set_option maxHeartbeats 4000000 in
set_option maxRecDepth 100000 in
theorem c_X0_greatestOf (l : Launch) (dC : Nat → ClassId) (dI : Nat → Nat → Nat) (cI cZ : ClassId) (te : Nat → Nat) (h_t : Nat) (h_t_least : Nat) (h_t_greatest : Nat) (h_t_leastBefore : Nat) (h_t_greatestBefore : Nat) (h_t_ridgeOf : Nat) (h_t_olderOf : Nat) (h_t_lowOf : Nat) (h_t_highOf : Nat) (h_t_cutsBetween : Nat) (h_t_soughtFor : Nat) (t_taken : Int32) (t_soughtSlow : Int32) (t_soughtFast : Int32) (t_lastLeftOut : Int32) (t_greatest : Nat → Int32) (p1 : Int32) (o0 : Int32) (hf : f_X0_greatestOf t_greatest p1 = some o0) : CM l yX0_greatestOf wqX0_greatestOf rmX0_greatestOf (kS te) dC dI cI cZ [.ref h_t, .int p1] [(h_t, .inr (0, fX0 h_t_least h_t_greatest h_t_leastBefore h_t_greatestBefore h_t_ridgeOf h_t_olderOf h_t_lowOf h_t_highOf t_taken h_t_cutsBetween h_t_soughtFor t_soughtSlow t_soughtFast t_lastLeftOut)), (h_t_greatest, .inl (cI, 8, .inl t_greatest))] [(h_t, .inr (0, fX0 h_t_least h_t_greatest h_t_leastBefore h_t_greatestBefore h_t_ridgeOf h_t_olderOf h_t_lowOf h_t_highOf t_taken h_t_cutsBetween h_t_soughtFor t_soughtSlow t_soughtFast t_lastLeftOut)), (h_t_greatest, .inl (cI, 8, .inl t_greatest))] (some (.int o0)) := by
  refine CM_of (cc := cX0_greatestOf) (maxL := 2) (ret := (some .int)) (by decide +kernel) rfl (Nat.le_of_ble_eq_true rfl) ?_
  intro p e s m args below meth c A Q hx hb hr hml hown hts hlocks hA hK hP hD hS hE hQ hAe ls hl
  have hown : s.vm.findClass RX0 = some m.cls := hown
  have hl : lv_has ls 2 [(0, .ref h_t), (1, .int p1)] := hl
  unfold f_X0_greatestOf at hf
  refine lv_iload_n hx hb dX0_greatestOf_0 rfl (lv_at hl 1 rfl) ?_
  refine lv_if_lt (tgt := 19) hx hb dX0_greatestOf_1 (by decide) (fun c1 => ?_) (fun c1 => ?_)
  · replace hf := ifp c1 hf
    refine lv_iconst (v := (-1 : Int32)) hx hb dX0_greatestOf_19 (by decide) ?_
    obtain rfl := inj1 hf
    subst hQ
    exact CM_iret hx hb hr rfl hlocks hAe hP hD hS dX0_greatestOf_20
  · replace hf := ifn c1 hf
    refine lv_iload_n hx hb dX0_greatestOf_4 rfl (lv_at hl 1 rfl) ?_
    refine lv_bipush (v := (8 : Int32)) hx hb dX0_greatestOf_5 (by decide) ?_
    refine lv_icmp_ge (tgt := 19) hx hb dX0_greatestOf_7 (by decide) (fun c2 => ?_) (fun c2 => ?_)
    · replace hf := ifp c2 hf
      refine lv_iconst (v := (-1 : Int32)) hx hb dX0_greatestOf_19 (by decide) ?_
      obtain rfl := inj1 hf
      subst hQ
      exact CM_iret hx hb hr rfl hlocks hAe hP hD hS dX0_greatestOf_20
    · replace hf := ifn c2 hf
      refine lv_aload_n hx hb dX0_greatestOf_10 rfl (lv_at hl 0 rfl) ?_
      refine va_get (D := (dC, dI)) (ci := 0) (v := .ref h_t_greatest) (C := RX0) (T := TX0) (N := 14) hx hb hts (in1 tw_X0) hown hK hP 0 rfl rfl 1 (by decide) (hts _ (List.mem_cons_of_mem _ kw_39)) (fun _ h9 => h9) rfl dX0_greatestOf_11 ?_
      refine lv_iload_n hx hb dX0_greatestOf_14 rfl (lv_at hl 1 rfl) ?_
      obtain ⟨g3, hf⟩ := chk_some hf
      refine va_iald hx hb hK hP 1 0 rfl rfl (gin_in g3) dX0_greatestOf_15 ?_
      refine lv_goto (tgt := 20) hx hb dX0_greatestOf_16 (by decide) ?_
      obtain rfl := inj1 hf
      subst hQ
      exact CM_iret hx hb hr rfl hlocks hAe hP hD hS dX0_greatestOf_20
def rmX0_isYounger : Room := { frames := 1, cells := 0, slots := 0, locals := 23 }
abbrev wqX0_isYounger : List Cond := Cond.code yX0_isYounger cX0_isYounger 3 (some .boolean) :: tG
set_option maxHeartbeats 4000000 in
set_option maxRecDepth 100000 in
theorem c_X0_isYounger (l : Launch) (dC : Nat → ClassId) (dI : Nat → Nat → Nat) (cI cZ : ClassId) (te : Nat → Nat) (h_t : Nat) (h_t_least : Nat) (h_t_greatest : Nat) (h_t_leastBefore : Nat) (h_t_greatestBefore : Nat) (h_t_ridgeOf : Nat) (h_t_olderOf : Nat) (h_t_lowOf : Nat) (h_t_highOf : Nat) (h_t_cutsBetween : Nat) (h_t_soughtFor : Nat) (t_taken : Int32) (t_soughtSlow : Int32) (t_soughtFast : Int32) (t_lastLeftOut : Int32) (t_cutsBetween : Nat → Int32) (t_greatest : Nat → Int32) (t_least : Nat → Int32) (p1 : Int32) (p2 : Int32) (o0 : Int32) (hf : f_X0_isYounger t_cutsBetween t_greatest t_least p1 p2 = some o0) : CM l yX0_isYounger wqX0_isYounger rmX0_isYounger (kS te) dC dI cI cZ [.ref h_t, .int p1, .int p2] [(h_t, .inr (0, fX0 h_t_least h_t_greatest h_t_leastBefore h_t_greatestBefore h_t_ridgeOf h_t_olderOf h_t_lowOf h_t_highOf t_taken h_t_cutsBetween h_t_soughtFor t_soughtSlow t_soughtFast t_lastLeftOut)), (h_t_cutsBetween, .inl (cI, 64, .inl t_cutsBetween)), (h_t_greatest, .inl (cI, 8, .inl t_greatest)), (h_t_least, .inl (cI, 8, .inl t_least))] [(h_t, .inr (0, fX0 h_t_least h_t_greatest h_t_leastBefore h_t_greatestBefore h_t_ridgeOf h_t_olderOf h_t_lowOf h_t_highOf t_taken h_t_cutsBetween h_t_soughtFor t_soughtSlow t_soughtFast t_lastLeftOut)), (h_t_cutsBetween, .inl (cI, 64, .inl t_cutsBetween)), (h_t_greatest, .inl (cI, 8, .inl t_greatest)), (h_t_least, .inl (cI, 8, .inl t_least))] (some (.int o0)) := by
  refine CM_of (cc := cX0_isYounger) (maxL := 3) (ret := (some .boolean)) (by decide +kernel) rfl (Nat.le_of_ble_eq_true rfl) ?_
  intro p e s m args below meth c A Q hx hb hr hml hown hts hlocks hA hK hP hD hS hE hQ hAe ls hl
  have hown : s.vm.findClass RX0 = some m.cls := hown
  have hl : lv_has ls 3 [(0, .ref h_t), (1, .int p1), (2, .int p2)] := hl
  unfold f_X0_isYounger at hf
  refine lv_aload_n hx hb dX0_isYounger_0 rfl (lv_at hl 0 rfl) ?_
  refine lv_iload_n hx hb dX0_isYounger_1 rfl (lv_at hl 1 rfl) ?_
  refine lv_iload_n hx hb dX0_isYounger_2 rfl (lv_at hl 2 rfl) ?_
  obtain ⟨r1, hg2, hf⟩ := bd1_some hf
  refine CM_callV (C := RX0) (As := [.int p1, .int p2]) (rest := []) (wc := [(h_t, .inr (0, fX0 h_t_least h_t_greatest h_t_leastBefore h_t_greatestBefore h_t_ridgeOf h_t_olderOf h_t_lowOf h_t_highOf t_taken h_t_cutsBetween h_t_soughtFor t_soughtSlow t_soughtFast t_lastLeftOut)), (h_t_cutsBetween, .inl (cI, 64, .inl t_cutsBetween))]) (w1 := [(h_t, .inr (0, fX0 h_t_least h_t_greatest h_t_leastBefore h_t_greatestBefore h_t_ridgeOf h_t_olderOf h_t_lowOf h_t_highOf t_taken h_t_cutsBetween h_t_soughtFor t_soughtSlow t_soughtFast t_lastLeftOut)), (h_t_cutsBetween, .inl (cI, 64, .inl t_cutsBetween))]) (wr := [(h_t_greatest, .inl (cI, 8, .inl t_greatest)), (h_t_least, .inl (cI, 8, .inl t_least))]) (wo := [(h_t, .inr (0, fX0 h_t_least h_t_greatest h_t_leastBefore h_t_greatestBefore h_t_ridgeOf h_t_olderOf h_t_lowOf h_t_highOf t_taken h_t_cutsBetween h_t_soughtFor t_soughtSlow t_soughtFast t_lastLeftOut)), (h_t_cutsBetween, .inl (cI, 64, .inl t_cutsBetween)), (h_t_greatest, .inl (cI, 8, .inl t_greatest)), (h_t_least, .inl (cI, 8, .inl t_least))]) (v := (some (.int r1))) ⟨hx, hb, hml, hown, hts⟩ (c_X0_cuts l dC dI cI cZ te h_t h_t_least h_t_greatest h_t_leastBefore h_t_greatestBefore h_t_ridgeOf h_t_olderOf h_t_lowOf h_t_highOf h_t_cutsBetween h_t_soughtFor t_taken t_soughtSlow t_soughtFast t_lastLeftOut t_cutsBetween p1 p2 r1 hg2) (cwV 2 hts (gV kw_469 kw_470 kw_471 kw_88 kw_472) rfl rfl rfl (by decide +kernel) ⟨Nat.le_of_ble_eq_true rfl, Nat.le_of_ble_eq_true rfl⟩) (kS_env te) hK hP hD hS hA hE [0, 1] [2, 3] [2, 3, 0, 1] rfl rfl (by decide) (by decide) (by decide) (by decide) rfl 0 0 rfl rfl rfl rfl hl.1 rfl (Nat.le_of_ble_eq_true rfl) dX0_isYounger_3 ⟨Nat.zero_le _, Nat.zero_le _⟩ (fun H locs hP hD hS => ?_)
  show W p l e rmX0_isYounger s m args below meth c H locs 0 0 Q (F0 m 6 ls [.int r1])
  refine lv_if_gt (tgt := 22) hx hb dX0_isYounger_6 (by decide) (fun c3 => ?_) (fun c3 => ?_)
  · replace hf := ifp c3 hf
    refine lv_iconst (v := (1 : Int32)) hx hb dX0_isYounger_22 (by decide) ?_
    refine lv_goto (tgt := 27) hx hb dX0_isYounger_23 (by decide) ?_
    obtain rfl := inj1 hf
    subst hQ
    exact CM_iret hx hb hr rfl hlocks hAe hP hD hS dX0_isYounger_27
  · replace hf := ifn c3 hf
    refine lv_aload_n hx hb dX0_isYounger_9 rfl (lv_at hl 0 rfl) ?_
    refine lv_iload_n hx hb dX0_isYounger_10 rfl (lv_at hl 1 rfl) ?_
    obtain ⟨r4, hg5, hf⟩ := bd1_some hf
    refine CM_callV (C := RX0) (As := [.int p1]) (rest := []) (wc := [(h_t, .inr (0, fX0 h_t_least h_t_greatest h_t_leastBefore h_t_greatestBefore h_t_ridgeOf h_t_olderOf h_t_lowOf h_t_highOf t_taken h_t_cutsBetween h_t_soughtFor t_soughtSlow t_soughtFast t_lastLeftOut)), (h_t_greatest, .inl (cI, 8, .inl t_greatest))]) (w1 := [(h_t, .inr (0, fX0 h_t_least h_t_greatest h_t_leastBefore h_t_greatestBefore h_t_ridgeOf h_t_olderOf h_t_lowOf h_t_highOf t_taken h_t_cutsBetween h_t_soughtFor t_soughtSlow t_soughtFast t_lastLeftOut)), (h_t_greatest, .inl (cI, 8, .inl t_greatest))]) (wr := [(h_t_cutsBetween, .inl (cI, 64, .inl t_cutsBetween)), (h_t_least, .inl (cI, 8, .inl t_least))]) (wo := [(h_t, .inr (0, fX0 h_t_least h_t_greatest h_t_leastBefore h_t_greatestBefore h_t_ridgeOf h_t_olderOf h_t_lowOf h_t_highOf t_taken h_t_cutsBetween h_t_soughtFor t_soughtSlow t_soughtFast t_lastLeftOut)), (h_t_cutsBetween, .inl (cI, 64, .inl t_cutsBetween)), (h_t_greatest, .inl (cI, 8, .inl t_greatest)), (h_t_least, .inl (cI, 8, .inl t_least))]) (v := (some (.int r4))) ⟨hx, hb, hml, hown, hts⟩ (c_X0_greatestOf l dC dI cI cZ te h_t h_t_least h_t_greatest h_t_leastBefore h_t_greatestBefore h_t_ridgeOf h_t_olderOf h_t_lowOf h_t_highOf h_t_cutsBetween h_t_soughtFor t_taken t_soughtSlow t_soughtFast t_lastLeftOut t_greatest p1 r4 hg5) (cwV 1 hts (gV kw_485 kw_486 kw_487 kw_88 kw_488) rfl rfl rfl (by decide +kernel) ⟨Nat.le_of_ble_eq_true rfl, Nat.le_of_ble_eq_true rfl⟩) (kS_env te) hK hP hD hS hA hE [0, 2] [1, 3] [2, 0, 3, 1] rfl rfl (by decide) (by decide) (by decide) (by decide) rfl 0 0 rfl rfl rfl rfl hl.1 rfl (Nat.le_of_ble_eq_true rfl) dX0_isYounger_11 ⟨Nat.zero_le _, Nat.zero_le _⟩ (fun H locs hP hD hS => ?_)
    show W p l e rmX0_isYounger s m args below meth c H locs 0 0 Q (F0 m 14 ls [.int r4])
    refine lv_aload_n hx hb dX0_isYounger_14 rfl (lv_at hl 0 rfl) ?_
    refine lv_iload_n hx hb dX0_isYounger_15 rfl (lv_at hl 2 rfl) ?_
    obtain ⟨r6, hg7, hf⟩ := bd1_some hf
    refine CM_callV (C := RX0) (As := [.int p2]) (rest := [.int r4]) (wc := [(h_t, .inr (0, fX0 h_t_least h_t_greatest h_t_leastBefore h_t_greatestBefore h_t_ridgeOf h_t_olderOf h_t_lowOf h_t_highOf t_taken h_t_cutsBetween h_t_soughtFor t_soughtSlow t_soughtFast t_lastLeftOut)), (h_t_least, .inl (cI, 8, .inl t_least))]) (w1 := [(h_t, .inr (0, fX0 h_t_least h_t_greatest h_t_leastBefore h_t_greatestBefore h_t_ridgeOf h_t_olderOf h_t_lowOf h_t_highOf t_taken h_t_cutsBetween h_t_soughtFor t_soughtSlow t_soughtFast t_lastLeftOut)), (h_t_least, .inl (cI, 8, .inl t_least))]) (wr := [(h_t_cutsBetween, .inl (cI, 64, .inl t_cutsBetween)), (h_t_greatest, .inl (cI, 8, .inl t_greatest))]) (wo := [(h_t, .inr (0, fX0 h_t_least h_t_greatest h_t_leastBefore h_t_greatestBefore h_t_ridgeOf h_t_olderOf h_t_lowOf h_t_highOf t_taken h_t_cutsBetween h_t_soughtFor t_soughtSlow t_soughtFast t_lastLeftOut)), (h_t_cutsBetween, .inl (cI, 64, .inl t_cutsBetween)), (h_t_greatest, .inl (cI, 8, .inl t_greatest)), (h_t_least, .inl (cI, 8, .inl t_least))]) (v := (some (.int r6))) ⟨hx, hb, hml, hown, hts⟩ (c_X0_leastOf l dC dI cI cZ te h_t h_t_least h_t_greatest h_t_leastBefore h_t_greatestBefore h_t_ridgeOf h_t_olderOf h_t_lowOf h_t_highOf h_t_cutsBetween h_t_soughtFor t_taken t_soughtSlow t_soughtFast t_lastLeftOut t_least p2 r6 hg7) (cwV 1 hts (gV kw_489 kw_490 kw_491 kw_88 kw_492) rfl rfl rfl (by decide +kernel) ⟨Nat.le_of_ble_eq_true rfl, Nat.le_of_ble_eq_true rfl⟩) (kS_env te) hK hP hD hS hA hE [0, 3] [1, 2] [2, 0, 1, 3] rfl rfl (by decide) (by decide) (by decide) (by decide) rfl 0 0 rfl rfl rfl rfl hl.1 rfl (Nat.le_of_ble_eq_true rfl) dX0_isYounger_16 ⟨Nat.zero_le _, Nat.zero_le _⟩ (fun H locs hP hD hS => ?_)
    show W p l e rmX0_isYounger s m args below meth c H locs 0 0 Q (F0 m 19 ls [.int r6, .int r4])
    refine lv_icmp_ge (tgt := 26) hx hb dX0_isYounger_19 (by decide) (fun c8 => ?_) (fun c8 => ?_)
    · replace hf := ifp c8 hf
      refine lv_iconst (v := (0 : Int32)) hx hb dX0_isYounger_26 (by decide) ?_
      obtain rfl := inj1 hf
      subst hQ
      exact CM_iret hx hb hr rfl hlocks hAe hP hD hS dX0_isYounger_27
    · replace hf := ifn c8 hf
      refine lv_iconst (v := (1 : Int32)) hx hb dX0_isYounger_22 (by decide) ?_
      refine lv_goto (tgt := 27) hx hb dX0_isYounger_23 (by decide) ?_
      obtain rfl := inj1 hf
      subst hQ
      exact CM_iret hx hb hr rfl hlocks hAe hP hD hS dX0_isYounger_27
def rmX0_spansIfKnown : Room := { frames := 1, cells := 0, slots := 0, locals := 23 }
abbrev wqX0_spansIfKnown : List Cond := Cond.code yX0_spansIfKnown cX0_spansIfKnown 8 (some .int) :: tG
set_option maxHeartbeats 4000000 in
set_option maxRecDepth 100000 in
theorem c_X0_spansIfKnown (l : Launch) (dC : Nat → ClassId) (dI : Nat → Nat → Nat) (cI cZ : ClassId) (te : Nat → Nat) (h_t : Nat) (h_t_least : Nat) (h_t_greatest : Nat) (h_t_leastBefore : Nat) (h_t_greatestBefore : Nat) (h_t_ridgeOf : Nat) (h_t_olderOf : Nat) (h_t_lowOf : Nat) (h_t_highOf : Nat) (h_t_cutsBetween : Nat) (h_t_soughtFor : Nat) (t_taken : Int32) (t_soughtSlow : Int32) (t_soughtFast : Int32) (t_lastLeftOut : Int32) (t_least : Nat → Int32) (t_greatest : Nat → Int32) (t_cutsBetween : Nat → Int32) (p1 : Int32) (p2 : Int32) (p3 : Int32) (o0 : Int32) (hf : f_X0_spansIfKnown t_least t_greatest t_cutsBetween p1 p2 p3 = some o0) : CM l yX0_spansIfKnown wqX0_spansIfKnown rmX0_spansIfKnown (kS te) dC dI cI cZ [.ref h_t, .int p1, .int p2, .int p3] [(h_t, .inr (0, fX0 h_t_least h_t_greatest h_t_leastBefore h_t_greatestBefore h_t_ridgeOf h_t_olderOf h_t_lowOf h_t_highOf t_taken h_t_cutsBetween h_t_soughtFor t_soughtSlow t_soughtFast t_lastLeftOut)), (h_t_least, .inl (cI, 8, .inl t_least)), (h_t_greatest, .inl (cI, 8, .inl t_greatest)), (h_t_cutsBetween, .inl (cI, 64, .inl t_cutsBetween))] [(h_t, .inr (0, fX0 h_t_least h_t_greatest h_t_leastBefore h_t_greatestBefore h_t_ridgeOf h_t_olderOf h_t_lowOf h_t_highOf t_taken h_t_cutsBetween h_t_soughtFor t_soughtSlow t_soughtFast t_lastLeftOut)), (h_t_least, .inl (cI, 8, .inl t_least)), (h_t_greatest, .inl (cI, 8, .inl t_greatest)), (h_t_cutsBetween, .inl (cI, 64, .inl t_cutsBetween))] (some (.int o0)) := by
  refine CM_of (cc := cX0_spansIfKnown) (maxL := 8) (ret := (some .int)) (by decide +kernel) rfl (Nat.le_of_ble_eq_true rfl) ?_
  intro p e s m args below meth c A Q hx hb hr hml hown hts hlocks hA hK hP hD hS hE hQ hAe ls hl
  have hown : s.vm.findClass RX0 = some m.cls := hown
  have hl : lv_has ls 8 [(0, .ref h_t), (1, .int p1), (2, .int p2), (3, .int p3)] := hl
  unfold f_X0_spansIfKnown at hf
  refine lv_iconst (v := (0 : Int32)) hx hb dX0_spansIfKnown_0 (by decide) ?_
  refine lv_istore (lv' := [(4, .int (0 : Int32)), (0, .ref h_t), (1, .int p1), (2, .int p2), (3, .int p3)]) hx hb dX0_spansIfKnown_1 hl (by decide) rfl (fun ls hl => ?_)
  refine lv_iconst (v := (0 : Int32)) hx hb dX0_spansIfKnown_3 (by decide) ?_
  refine lv_istore (lv' := [(5, .int (0 : Int32)), (4, .int (0 : Int32)), (0, .ref h_t), (1, .int p1), (2, .int p2), (3, .int p3)]) hx hb dX0_spansIfKnown_4 hl (by decide) rfl (fun ls hl => ?_)
  have L61 : ∀ (fu33 : Nat) (x30 : Int32) (x31 : Int32) (x29 : Int32), f_X0_spansIfKnown_L1 p1 t_least t_greatest t_cutsBetween p2 p3 fu33 x30 x31 = some x29 → (∀ (H : Heap) (locs : List Loc), va_P (dC, dI) vwCl [(h_t, .inr (0, fX0 h_t_least h_t_greatest h_t_leastBefore h_t_greatestBefore h_t_ridgeOf h_t_olderOf h_t_lowOf h_t_highOf t_taken h_t_cutsBetween h_t_soughtFor t_soughtSlow t_soughtFast t_lastLeftOut)), (h_t_least, .inl (cI, 8, .inl t_least)), (h_t_greatest, .inl (cI, 8, .inl t_greatest)), (h_t_cutsBetween, .inl (cI, 64, .inl t_cutsBetween))] H → va_D A [(h_t, .inr (0, fX0 h_t_least h_t_greatest h_t_leastBefore h_t_greatestBefore h_t_ridgeOf h_t_olderOf h_t_lowOf h_t_highOf t_taken h_t_cutsBetween h_t_soughtFor t_soughtSlow t_soughtFast t_lastLeftOut)), (h_t_least, .inl (cI, 8, .inl t_least)), (h_t_greatest, .inl (cI, 8, .inl t_greatest)), (h_t_cutsBetween, .inl (cI, 64, .inl t_cutsBetween))] → va_S A s.heap H locs → ∀ ls : Array Slot, lv_has ls 8 [(4, .int x29)] → W p l e rmX0_spansIfKnown s m args below meth c H locs 0 0 Q (F0 m 102 ls [])) → ∀ (H : Heap) (locs : List Loc), va_P (dC, dI) vwCl [(h_t, .inr (0, fX0 h_t_least h_t_greatest h_t_leastBefore h_t_greatestBefore h_t_ridgeOf h_t_olderOf h_t_lowOf h_t_highOf t_taken h_t_cutsBetween h_t_soughtFor t_soughtSlow t_soughtFast t_lastLeftOut)), (h_t_least, .inl (cI, 8, .inl t_least)), (h_t_greatest, .inl (cI, 8, .inl t_greatest)), (h_t_cutsBetween, .inl (cI, 64, .inl t_cutsBetween))] H → va_D A [(h_t, .inr (0, fX0 h_t_least h_t_greatest h_t_leastBefore h_t_greatestBefore h_t_ridgeOf h_t_olderOf h_t_lowOf h_t_highOf t_taken h_t_cutsBetween h_t_soughtFor t_soughtSlow t_soughtFast t_lastLeftOut)), (h_t_least, .inl (cI, 8, .inl t_least)), (h_t_greatest, .inl (cI, 8, .inl t_greatest)), (h_t_cutsBetween, .inl (cI, 64, .inl t_cutsBetween))] → va_S A s.heap H locs → ∀ ls : Array Slot, lv_has ls 8 [(0, .ref h_t), (1, .int p1), (2, .int p2), (3, .int p3), (4, .int x30), (5, .int x31)] → W p l e rmX0_spansIfKnown s m args below meth c H locs 0 0 Q (F0 m 6 ls []) := by
    intro fu33
    induction fu33 with
    | zero =>
      intro x30 x31 x29 hf
      unfold f_X0_spansIfKnown_L1 at hf
      exact none_ne hf
    | succ fu33 ih32 =>
      intro x30 x31 x29 hf hX34 H locs hP hD hS ls hl
      unfold f_X0_spansIfKnown_L1 at hf
      refine lv_iload hx hb dX0_spansIfKnown_6 (lv_at hl 5 rfl) ?_
      refine lv_iload_n hx hb dX0_spansIfKnown_8 rfl (lv_at hl 1 rfl) ?_
      refine lv_icmp_ge (tgt := 102) hx hb dX0_spansIfKnown_9 (by decide) (fun c35 => ?_) (fun c35 => ?_)
      · replace hf := ifp c35 hf
        obtain rfl := inj1 hf
        exact hX34 _ _ hP hD hS _ (lv_sub hl [4] rfl)
      · replace hf := ifn c35 hf
        refine lv_aload_n hx hb dX0_spansIfKnown_12 rfl (lv_at hl 0 rfl) ?_
        refine lv_iload hx hb dX0_spansIfKnown_13 (lv_at hl 5 rfl) ?_
        obtain ⟨r36, hg37, hf⟩ := bd1_some hf
        refine CM_callV (C := RX0) (As := [.int x31]) (rest := []) (wc := [(h_t, .inr (0, fX0 h_t_least h_t_greatest h_t_leastBefore h_t_greatestBefore h_t_ridgeOf h_t_olderOf h_t_lowOf h_t_highOf t_taken h_t_cutsBetween h_t_soughtFor t_soughtSlow t_soughtFast t_lastLeftOut)), (h_t_least, .inl (cI, 8, .inl t_least))]) (w1 := [(h_t, .inr (0, fX0 h_t_least h_t_greatest h_t_leastBefore h_t_greatestBefore h_t_ridgeOf h_t_olderOf h_t_lowOf h_t_highOf t_taken h_t_cutsBetween h_t_soughtFor t_soughtSlow t_soughtFast t_lastLeftOut)), (h_t_least, .inl (cI, 8, .inl t_least))]) (wr := [(h_t_greatest, .inl (cI, 8, .inl t_greatest)), (h_t_cutsBetween, .inl (cI, 64, .inl t_cutsBetween))]) (wo := [(h_t, .inr (0, fX0 h_t_least h_t_greatest h_t_leastBefore h_t_greatestBefore h_t_ridgeOf h_t_olderOf h_t_lowOf h_t_highOf t_taken h_t_cutsBetween h_t_soughtFor t_soughtSlow t_soughtFast t_lastLeftOut)), (h_t_least, .inl (cI, 8, .inl t_least)), (h_t_greatest, .inl (cI, 8, .inl t_greatest)), (h_t_cutsBetween, .inl (cI, 64, .inl t_cutsBetween))]) (v := (some (.int r36))) ⟨hx, hb, hml, hown, hts⟩ (c_X0_leastOf l dC dI cI cZ te h_t h_t_least h_t_greatest h_t_leastBefore h_t_greatestBefore h_t_ridgeOf h_t_olderOf h_t_lowOf h_t_highOf h_t_cutsBetween h_t_soughtFor t_taken t_soughtSlow t_soughtFast t_lastLeftOut t_least x31 r36 hg37) (cwV 1 hts (gV kw_489 kw_490 kw_491 kw_88 kw_492) rfl rfl rfl (by decide +kernel) ⟨Nat.le_of_ble_eq_true rfl, Nat.le_of_ble_eq_true rfl⟩) (kS_env te) hK hP hD hS hA hE [0, 1] [2, 3] [2, 3, 0, 1] rfl rfl (by decide) (by decide) (by decide) (by decide) rfl 0 0 rfl rfl rfl rfl hl.1 rfl (Nat.le_of_ble_eq_true rfl) dX0_spansIfKnown_15 ⟨Nat.zero_le _, Nat.zero_le _⟩ (fun H locs hP hD hS => ?_)
        show W p l e rmX0_spansIfKnown s m args below meth c H locs 0 0 Q (F0 m 18 ls [.int r36])
        refine lv_istore (lv' := [(6, .int r36), (0, .ref h_t), (1, .int p1), (2, .int p2), (3, .int p3), (4, .int x30), (5, .int x31)]) hx hb dX0_spansIfKnown_18 hl (by decide) rfl (fun ls hl => ?_)
        refine lv_aload_n hx hb dX0_spansIfKnown_20 rfl (lv_at hl 1 rfl) ?_
        refine lv_iload hx hb dX0_spansIfKnown_21 (lv_at hl 6 rfl) ?_
        obtain ⟨r38, hg39, hf⟩ := bd1_some hf
        refine CM_callV (C := RX0) (As := [.int x31]) (rest := []) (wc := [(h_t, .inr (0, fX0 h_t_least h_t_greatest h_t_leastBefore h_t_greatestBefore h_t_ridgeOf h_t_olderOf h_t_lowOf h_t_highOf t_taken h_t_cutsBetween h_t_soughtFor t_soughtSlow t_soughtFast t_lastLeftOut)), (h_t_greatest, .inl (cI, 8, .inl t_greatest))]) (w1 := [(h_t, .inr (0, fX0 h_t_least h_t_greatest h_t_leastBefore h_t_greatestBefore h_t_ridgeOf h_t_olderOf h_t_lowOf h_t_highOf t_taken h_t_cutsBetween h_t_soughtFor t_soughtSlow t_soughtFast t_lastLeftOut)), (h_t_greatest, .inl (cI, 8, .inl t_greatest))]) (wr := [(h_t_least, .inl (cI, 8, .inl t_least)), (h_t_cutsBetween, .inl (cI, 64, .inl t_cutsBetween))]) (wo := [(h_t, .inr (0, fX0 h_t_least h_t_greatest h_t_leastBefore h_t_greatestBefore h_t_ridgeOf h_t_olderOf h_t_lowOf h_t_highOf t_taken h_t_cutsBetween h_t_soughtFor t_soughtSlow t_soughtFast t_lastLeftOut)), (h_t_least, .inl (cI, 8, .inl t_least)), (h_t_greatest, .inl (cI, 8, .inl t_greatest)), (h_t_cutsBetween, .inl (cI, 64, .inl t_cutsBetween))]) (v := (some (.int r38))) ⟨hx, hb, hml, hown, hts⟩ (c_X0_greatestOf l dC dI cI cZ te h_t h_t_least h_t_greatest h_t_leastBefore h_t_greatestBefore h_t_ridgeOf h_t_olderOf h_t_lowOf h_t_highOf h_t_cutsBetween h_t_soughtFor t_taken t_soughtSlow t_soughtFast t_lastLeftOut t_greatest x31 r38 hg39) (cwV 1 hts (gV kw_485 kw_486 kw_487 kw_88 kw_488) rfl rfl rfl (by decide +kernel) ⟨Nat.le_of_ble_eq_true rfl, Nat.le_of_ble_eq_true rfl⟩) (kS_env te) hK hP hD hS hA hE [0, 2] [1, 3] [2, 0, 3, 1] rfl rfl (by decide) (by decide) (by decide) (by decide) rfl 0 0 rfl rfl rfl rfl hl.1 rfl (Nat.le_of_ble_eq_true rfl) dX0_spansIfKnown_23 ⟨Nat.zero_le _, Nat.zero_le _⟩ (fun H locs hP hD hS => ?_)
        show W p l e rmX0_spansIfKnown s m args below meth c H locs 0 0 Q (F0 m 26 ls [.int r38])
        refine lv_istore (lv' := [(7, .int r38), (6, .int r36), (0, .ref h_t), (1, .int p1), (2, .int p2), (3, .int p3), (4, .int x30), (5, .int x31)]) hx hb dX0_spansIfKnown_26 hl (by decide) rfl (fun ls hl => ?_)
        refine lv_aload_n hx hb dX0_spansIfKnown_28 rfl (lv_at hl 2 rfl) ?_
        refine lv_iload_n hx hb dX0_spansIfKnown_29 rfl (lv_at hl 4 rfl) ?_
        refine lv_iload hx hb dX0_spansIfKnown_30 (lv_at hl 7 rfl) ?_
        obtain ⟨r40, hg41, hf⟩ := bd1_some hf
        refine CM_callV (C := RX0) (As := [.int p2, .int x31]) (rest := []) (wc := [(h_t, .inr (0, fX0 h_t_least h_t_greatest h_t_leastBefore h_t_greatestBefore h_t_ridgeOf h_t_olderOf h_t_lowOf h_t_highOf t_taken h_t_cutsBetween h_t_soughtFor t_soughtSlow t_soughtFast t_lastLeftOut)), (h_t_cutsBetween, .inl (cI, 64, .inl t_cutsBetween))]) (w1 := [(h_t, .inr (0, fX0 h_t_least h_t_greatest h_t_leastBefore h_t_greatestBefore h_t_ridgeOf h_t_olderOf h_t_lowOf h_t_highOf t_taken h_t_cutsBetween h_t_soughtFor t_soughtSlow t_soughtFast t_lastLeftOut)), (h_t_cutsBetween, .inl (cI, 64, .inl t_cutsBetween))]) (wr := [(h_t_least, .inl (cI, 8, .inl t_least)), (h_t_greatest, .inl (cI, 8, .inl t_greatest))]) (wo := [(h_t, .inr (0, fX0 h_t_least h_t_greatest h_t_leastBefore h_t_greatestBefore h_t_ridgeOf h_t_olderOf h_t_lowOf h_t_highOf t_taken h_t_cutsBetween h_t_soughtFor t_soughtSlow t_soughtFast t_lastLeftOut)), (h_t_least, .inl (cI, 8, .inl t_least)), (h_t_greatest, .inl (cI, 8, .inl t_greatest)), (h_t_cutsBetween, .inl (cI, 64, .inl t_cutsBetween))]) (v := (some (.int r40))) ⟨hx, hb, hml, hown, hts⟩ (c_X0_cuts l dC dI cI cZ te h_t h_t_least h_t_greatest h_t_leastBefore h_t_greatestBefore h_t_ridgeOf h_t_olderOf h_t_lowOf h_t_highOf h_t_cutsBetween h_t_soughtFor t_taken t_soughtSlow t_soughtFast t_lastLeftOut t_cutsBetween p2 x31 r40 hg41) (cwV 2 hts (gV kw_469 kw_470 kw_471 kw_88 kw_472) rfl rfl rfl (by decide +kernel) ⟨Nat.le_of_ble_eq_true rfl, Nat.le_of_ble_eq_true rfl⟩) (kS_env te) hK hP hD hS hA hE [0, 3] [1, 2] [2, 0, 1, 3] rfl rfl (by decide) (by decide) (by decide) (by decide) rfl 0 0 rfl rfl rfl rfl hl.1 rfl (Nat.le_of_ble_eq_true rfl) dX0_spansIfKnown_32 ⟨Nat.zero_le _, Nat.zero_le _⟩ (fun H locs hP hD hS => ?_)
        show W p l e rmX0_spansIfKnown s m args below meth c H locs 0 0 Q (F0 m 35 ls [.int r40])
        obtain ⟨x42, hg, hf⟩ := bd1_some hf
        have J43 : ∀ (H : Heap) (locs : List Loc), va_P (dC, dI) vwCl [(h_t, .inr (0, fX0 h_t_least h_t_greatest h_t_leastBefore h_t_greatestBefore h_t_ridgeOf h_t_olderOf h_t_lowOf h_t_highOf t_taken h_t_cutsBetween h_t_soughtFor t_soughtSlow t_soughtFast t_lastLeftOut)), (h_t_least, .inl (cI, 8, .inl t_least)), (h_t_greatest, .inl (cI, 8, .inl t_greatest)), (h_t_cutsBetween, .inl (cI, 64, .inl t_cutsBetween))] H → va_D A [(h_t, .inr (0, fX0 h_t_least h_t_greatest h_t_leastBefore h_t_greatestBefore h_t_ridgeOf h_t_olderOf h_t_lowOf h_t_highOf t_taken h_t_cutsBetween h_t_soughtFor t_soughtSlow t_soughtFast t_lastLeftOut)), (h_t_least, .inl (cI, 8, .inl t_least)), (h_t_greatest, .inl (cI, 8, .inl t_greatest)), (h_t_cutsBetween, .inl (cI, 64, .inl t_cutsBetween))] → va_S A s.heap H locs → ∀ ls : Array Slot, lv_has ls 8 [(0, .ref h_t), (1, .int p1), (2, .int p2), (3, .int p3), (4, .int x30), (5, .int x31), (6, .int x42), (7, .int r38)] → W p l e rmX0_spansIfKnown s m args below meth c H locs 0 0 Q (F0 m 54 ls []) := by
          intro H locs hP hD hS ls hl
          refine lv_aload_n hx hb dX0_spansIfKnown_54 rfl (lv_at hl 0 rfl) ?_
          refine lv_iload hx hb dX0_spansIfKnown_55 (lv_at hl 5 rfl) ?_
          refine lv_iload_n hx hb dX0_spansIfKnown_57 rfl (lv_at hl 2 rfl) ?_
          obtain ⟨r44, hg45, hf⟩ := bd1_some hf
          refine CM_callV (C := RX0) (As := [.int x31, .int p2]) (rest := []) (wc := [(h_t, .inr (0, fX0 h_t_least h_t_greatest h_t_leastBefore h_t_greatestBefore h_t_ridgeOf h_t_olderOf h_t_lowOf h_t_highOf t_taken h_t_cutsBetween h_t_soughtFor t_soughtSlow t_soughtFast t_lastLeftOut)), (h_t_cutsBetween, .inl (cI, 64, .inl t_cutsBetween))]) (w1 := [(h_t, .inr (0, fX0 h_t_least h_t_greatest h_t_leastBefore h_t_greatestBefore h_t_ridgeOf h_t_olderOf h_t_lowOf h_t_highOf t_taken h_t_cutsBetween h_t_soughtFor t_soughtSlow t_soughtFast t_lastLeftOut)), (h_t_cutsBetween, .inl (cI, 64, .inl t_cutsBetween))]) (wr := [(h_t_least, .inl (cI, 8, .inl t_least)), (h_t_greatest, .inl (cI, 8, .inl t_greatest))]) (wo := [(h_t, .inr (0, fX0 h_t_least h_t_greatest h_t_leastBefore h_t_greatestBefore h_t_ridgeOf h_t_olderOf h_t_lowOf h_t_highOf t_taken h_t_cutsBetween h_t_soughtFor t_soughtSlow t_soughtFast t_lastLeftOut)), (h_t_least, .inl (cI, 8, .inl t_least)), (h_t_greatest, .inl (cI, 8, .inl t_greatest)), (h_t_cutsBetween, .inl (cI, 64, .inl t_cutsBetween))]) (v := (some (.int r44))) ⟨hx, hb, hml, hown, hts⟩ (c_X0_cuts l dC dI cI cZ te h_t h_t_least h_t_greatest h_t_leastBefore h_t_greatestBefore h_t_ridgeOf h_t_olderOf h_t_lowOf h_t_highOf h_t_cutsBetween h_t_soughtFor t_taken t_soughtSlow t_soughtFast t_lastLeftOut t_cutsBetween x31 p2 r44 hg45) (cwV 2 hts (gV kw_469 kw_470 kw_471 kw_88 kw_472) rfl rfl rfl (by decide +kernel) ⟨Nat.le_of_ble_eq_true rfl, Nat.le_of_ble_eq_true rfl⟩) (kS_env te) hK hP hD hS hA hE [0, 3] [1, 2] [2, 0, 1, 3] rfl rfl (by decide) (by decide) (by decide) (by decide) rfl 0 0 rfl rfl rfl rfl hl.1 rfl (Nat.le_of_ble_eq_true rfl) dX0_spansIfKnown_58 ⟨Nat.zero_le _, Nat.zero_le _⟩ (fun H locs hP hD hS => ?_)
          show W p l e rmX0_spansIfKnown s m args below meth c H locs 0 0 Q (F0 m 61 ls [.int r44])
          obtain ⟨x46, hg, hf⟩ := bd1_some hf
          have J47 : ∀ (H : Heap) (locs : List Loc), va_P (dC, dI) vwCl [(h_t, .inr (0, fX0 h_t_least h_t_greatest h_t_leastBefore h_t_greatestBefore h_t_ridgeOf h_t_olderOf h_t_lowOf h_t_highOf t_taken h_t_cutsBetween h_t_soughtFor t_soughtSlow t_soughtFast t_lastLeftOut)), (h_t_least, .inl (cI, 8, .inl t_least)), (h_t_greatest, .inl (cI, 8, .inl t_greatest)), (h_t_cutsBetween, .inl (cI, 64, .inl t_cutsBetween))] H → va_D A [(h_t, .inr (0, fX0 h_t_least h_t_greatest h_t_leastBefore h_t_greatestBefore h_t_ridgeOf h_t_olderOf h_t_lowOf h_t_highOf t_taken h_t_cutsBetween h_t_soughtFor t_soughtSlow t_soughtFast t_lastLeftOut)), (h_t_least, .inl (cI, 8, .inl t_least)), (h_t_greatest, .inl (cI, 8, .inl t_greatest)), (h_t_cutsBetween, .inl (cI, 64, .inl t_cutsBetween))] → va_S A s.heap H locs → ∀ ls : Array Slot, lv_has ls 8 [(0, .ref h_t), (1, .int p1), (2, .int p2), (3, .int p3), (4, .int x30), (5, .int x31), (6, .int x42), (7, .int x46)] → W p l e rmX0_spansIfKnown s m args below meth c H locs 0 0 Q (F0 m 80 ls []) := by
            intro H locs hP hD hS ls hl
            refine lv_iload hx hb dX0_spansIfKnown_80 (lv_at hl 5 rfl) ?_
            refine lv_iload_n hx hb dX0_spansIfKnown_82 rfl (lv_at hl 2 rfl) ?_
            refine lv_icmp_eq (tgt := 96) hx hb dX0_spansIfKnown_83 (by decide) (fun c48 => ?_) (fun c48 => ?_)
            · replace hf := ifp c48 hf
              refine lv_iinc (v := (x31 + (1 : Int32))) (lv' := [(5, .int (x31 + (1 : Int32))), (0, .ref h_t), (1, .int p1), (2, .int p2), (3, .int p3), (4, .int x30), (6, .int x42), (7, .int x46)]) hx hb dX0_spansIfKnown_96 hl (k := 5) rfl rfl (by decide) rfl (fun ls hl => ?_)
              refine lv_goto (tgt := 6) hx hb dX0_spansIfKnown_99 (by decide) ?_
              exact ih32 _ _ _ hf hX34 _ _ hP hD hS _ (lv_sub hl [1, 2, 3, 4, 5, 0] rfl)
            · replace hf := ifn c48 hf
              refine lv_iload hx hb dX0_spansIfKnown_86 (lv_at hl 4 rfl) ?_
              refine lv_iload hx hb dX0_spansIfKnown_88 (lv_at hl 7 rfl) ?_
              refine lv_iload hx hb dX0_spansIfKnown_90 (lv_at hl 6 rfl) ?_
              refine lv_isub hx hb dX0_spansIfKnown_92 ?_
              refine lv_iadd hx hb dX0_spansIfKnown_93 ?_
              obtain ⟨x49, e50, hf⟩ := nm_some hf
              refine lv_tope e50 ?_
              refine lv_istore (lv' := [(4, .int x49), (0, .ref h_t), (1, .int p1), (2, .int p2), (3, .int p3), (5, .int x31), (6, .int x42), (7, .int x46)]) hx hb dX0_spansIfKnown_94 hl (by decide) rfl (fun ls hl => ?_)
              refine lv_iinc (v := (x31 + (1 : Int32))) (lv' := [(5, .int (x31 + (1 : Int32))), (4, .int x49), (0, .ref h_t), (1, .int p1), (2, .int p2), (3, .int p3), (6, .int x42), (7, .int x46)]) hx hb dX0_spansIfKnown_96 hl (k := 5) rfl rfl (by decide) rfl (fun ls hl => ?_)
              refine lv_goto (tgt := 6) hx hb dX0_spansIfKnown_99 (by decide) ?_
              exact ih32 _ _ _ hf hX34 _ _ hP hD hS _ (lv_sub hl [2, 3, 4, 5, 1, 0] rfl)
          clear hf
          have hf := hg
          refine lv_if_le (tgt := 80) hx hb dX0_spansIfKnown_61 (by decide) (fun c51 => ?_) (fun c51 => ?_)
          · replace hf := ifp c51 hf
            obtain rfl := inj1 hf
            exact J47 _ _ hP hD hS _ (lv_sub hl [0, 1, 2, 3, 4, 5, 6, 7] rfl)
          · replace hf := ifn c51 hf
            refine lv_iload hx hb dX0_spansIfKnown_64 (lv_at hl 7 rfl) ?_
            refine lv_iload_n hx hb dX0_spansIfKnown_66 rfl (lv_at hl 3 rfl) ?_
            refine lv_aload_n hx hb dX0_spansIfKnown_67 rfl (lv_at hl 0 rfl) ?_
            refine lv_iload hx hb dX0_spansIfKnown_68 (lv_at hl 5 rfl) ?_
            refine lv_iload_n hx hb dX0_spansIfKnown_70 rfl (lv_at hl 2 rfl) ?_
            obtain ⟨r52, hg53, hf⟩ := bd1_some hf
            refine CM_callV (C := RX0) (As := [.int x31, .int p2]) (rest := [.int p3, .int r38]) (wc := [(h_t, .inr (0, fX0 h_t_least h_t_greatest h_t_leastBefore h_t_greatestBefore h_t_ridgeOf h_t_olderOf h_t_lowOf h_t_highOf t_taken h_t_cutsBetween h_t_soughtFor t_soughtSlow t_soughtFast t_lastLeftOut)), (h_t_cutsBetween, .inl (cI, 64, .inl t_cutsBetween))]) (w1 := [(h_t, .inr (0, fX0 h_t_least h_t_greatest h_t_leastBefore h_t_greatestBefore h_t_ridgeOf h_t_olderOf h_t_lowOf h_t_highOf t_taken h_t_cutsBetween h_t_soughtFor t_soughtSlow t_soughtFast t_lastLeftOut)), (h_t_cutsBetween, .inl (cI, 64, .inl t_cutsBetween))]) (wr := [(h_t_least, .inl (cI, 8, .inl t_least)), (h_t_greatest, .inl (cI, 8, .inl t_greatest))]) (wo := [(h_t, .inr (0, fX0 h_t_least h_t_greatest h_t_leastBefore h_t_greatestBefore h_t_ridgeOf h_t_olderOf h_t_lowOf h_t_highOf t_taken h_t_cutsBetween h_t_soughtFor t_soughtSlow t_soughtFast t_lastLeftOut)), (h_t_least, .inl (cI, 8, .inl t_least)), (h_t_greatest, .inl (cI, 8, .inl t_greatest)), (h_t_cutsBetween, .inl (cI, 64, .inl t_cutsBetween))]) (v := (some (.int r52))) ⟨hx, hb, hml, hown, hts⟩ (c_X0_cuts l dC dI cI cZ te h_t h_t_least h_t_greatest h_t_leastBefore h_t_greatestBefore h_t_ridgeOf h_t_olderOf h_t_lowOf h_t_highOf h_t_cutsBetween h_t_soughtFor t_taken t_soughtSlow t_soughtFast t_lastLeftOut t_cutsBetween x31 p2 r52 hg53) (cwV 2 hts (gV kw_469 kw_470 kw_471 kw_88 kw_472) rfl rfl rfl (by decide +kernel) ⟨Nat.le_of_ble_eq_true rfl, Nat.le_of_ble_eq_true rfl⟩) (kS_env te) hK hP hD hS hA hE [0, 3] [1, 2] [2, 0, 1, 3] rfl rfl (by decide) (by decide) (by decide) (by decide) rfl 0 0 rfl rfl rfl rfl hl.1 rfl (Nat.le_of_ble_eq_true rfl) dX0_spansIfKnown_71 ⟨Nat.zero_le _, Nat.zero_le _⟩ (fun H locs hP hD hS => ?_)
            show W p l e rmX0_spansIfKnown s m args below meth c H locs 0 0 Q (F0 m 74 ls [.int r52, .int p3, .int r38])
            refine lv_isub hx hb dX0_spansIfKnown_74 ?_
            refine va_mmin hx hb (hml.trans hl.1.symm) hown (hts _ (List.mem_cons_of_mem _ kw_411)) (hts _ (List.mem_cons_of_mem _ kw_4)) (hts _ (List.mem_cons_of_mem _ kw_5)) (hts _ (List.mem_cons_of_mem _ kw_6)) (Nat.le_of_ble_eq_true rfl) (Nat.le_of_ble_eq_true rfl) (Nat.zero_le _) (Nat.zero_le _) dX0_spansIfKnown_75 ?_
            obtain ⟨x54, e55, hf⟩ := nm_some hf
            refine lv_tope e55 ?_
            refine lv_istore (lv' := [(7, .int x54), (0, .ref h_t), (1, .int p1), (2, .int p2), (3, .int p3), (4, .int x30), (5, .int x31), (6, .int x42)]) hx hb dX0_spansIfKnown_78 hl (by decide) rfl (fun ls hl => ?_)
            obtain rfl := inj1 hf
            exact J47 _ _ hP hD hS _ (lv_sub hl [1, 2, 3, 4, 5, 6, 7, 0] rfl)
        clear hf
        have hf := hg
        refine lv_if_le (tgt := 54) hx hb dX0_spansIfKnown_35 (by decide) (fun c56 => ?_) (fun c56 => ?_)
        · replace hf := ifp c56 hf
          obtain rfl := inj1 hf
          exact J43 _ _ hP hD hS _ (lv_sub hl [2, 3, 4, 5, 6, 7, 1, 0] rfl)
        · replace hf := ifn c56 hf
          refine lv_iload hx hb dX0_spansIfKnown_38 (lv_at hl 1 rfl) ?_
          refine lv_iload_n hx hb dX0_spansIfKnown_40 rfl (lv_at hl 5 rfl) ?_
          refine lv_aload_n hx hb dX0_spansIfKnown_41 rfl (lv_at hl 2 rfl) ?_
          refine lv_iload_n hx hb dX0_spansIfKnown_42 rfl (lv_at hl 4 rfl) ?_
          refine lv_iload hx hb dX0_spansIfKnown_43 (lv_at hl 7 rfl) ?_
          obtain ⟨r57, hg58, hf⟩ := bd1_some hf
          refine CM_callV (C := RX0) (As := [.int p2, .int x31]) (rest := [.int p3, .int r36]) (wc := [(h_t, .inr (0, fX0 h_t_least h_t_greatest h_t_leastBefore h_t_greatestBefore h_t_ridgeOf h_t_olderOf h_t_lowOf h_t_highOf t_taken h_t_cutsBetween h_t_soughtFor t_soughtSlow t_soughtFast t_lastLeftOut)), (h_t_cutsBetween, .inl (cI, 64, .inl t_cutsBetween))]) (w1 := [(h_t, .inr (0, fX0 h_t_least h_t_greatest h_t_leastBefore h_t_greatestBefore h_t_ridgeOf h_t_olderOf h_t_lowOf h_t_highOf t_taken h_t_cutsBetween h_t_soughtFor t_soughtSlow t_soughtFast t_lastLeftOut)), (h_t_cutsBetween, .inl (cI, 64, .inl t_cutsBetween))]) (wr := [(h_t_least, .inl (cI, 8, .inl t_least)), (h_t_greatest, .inl (cI, 8, .inl t_greatest))]) (wo := [(h_t, .inr (0, fX0 h_t_least h_t_greatest h_t_leastBefore h_t_greatestBefore h_t_ridgeOf h_t_olderOf h_t_lowOf h_t_highOf t_taken h_t_cutsBetween h_t_soughtFor t_soughtSlow t_soughtFast t_lastLeftOut)), (h_t_least, .inl (cI, 8, .inl t_least)), (h_t_greatest, .inl (cI, 8, .inl t_greatest)), (h_t_cutsBetween, .inl (cI, 64, .inl t_cutsBetween))]) (v := (some (.int r57))) ⟨hx, hb, hml, hown, hts⟩ (c_X0_cuts l dC dI cI cZ te h_t h_t_least h_t_greatest h_t_leastBefore h_t_greatestBefore h_t_ridgeOf h_t_olderOf h_t_lowOf h_t_highOf h_t_cutsBetween h_t_soughtFor t_taken t_soughtSlow t_soughtFast t_lastLeftOut t_cutsBetween p2 x31 r57 hg58) (cwV 2 hts (gV kw_469 kw_470 kw_471 kw_88 kw_472) rfl rfl rfl (by decide +kernel) ⟨Nat.le_of_ble_eq_true rfl, Nat.le_of_ble_eq_true rfl⟩) (kS_env te) hK hP hD hS hA hE [0, 3] [1, 2] [2, 0, 1, 3] rfl rfl (by decide) (by decide) (by decide) (by decide) rfl 0 0 rfl rfl rfl rfl hl.1 rfl (Nat.le_of_ble_eq_true rfl) dX0_spansIfKnown_45 ⟨Nat.zero_le _, Nat.zero_le _⟩ (fun H locs hP hD hS => ?_)
          show W p l e rmX0_spansIfKnown s m args below meth c H locs 0 0 Q (F0 m 48 ls [.int r57, .int p3, .int r36])
          refine lv_iadd hx hb dX0_spansIfKnown_48 ?_
          refine va_mmax hx hb (hml.trans hl.1.symm) hown (hts _ (List.mem_cons_of_mem _ kw_422)) (hts _ (List.mem_cons_of_mem _ kw_8)) (hts _ (List.mem_cons_of_mem _ kw_5)) (hts _ (List.mem_cons_of_mem _ kw_9)) (Nat.le_of_ble_eq_true rfl) (Nat.le_of_ble_eq_true rfl) (Nat.zero_le _) (Nat.zero_le _) dX0_spansIfKnown_49 ?_
          obtain ⟨x59, e60, hf⟩ := nm_some hf
          refine lv_tope e60 ?_
          refine lv_istore (lv' := [(6, .int x59), (7, .int r38), (0, .ref h_t), (1, .int p1), (2, .int p2), (3, .int p3), (4, .int x30), (5, .int x31)]) hx hb dX0_spansIfKnown_52 hl (by decide) rfl (fun ls hl => ?_)
          obtain rfl := inj1 hf
          exact J43 _ _ hP hD hS _ (lv_sub hl [2, 3, 4, 5, 6, 7, 0, 1] rfl)
  obtain ⟨x29, hg, hf⟩ := bd1_some hf
  refine L61 FU _ _ _ hg ?_ _ _ hP hD hS _ (lv_sub hl [2, 3, 4, 5, 1, 0] rfl)
  · intro H locs hP hD hS ls hl
    refine lv_iload hx hb dX0_spansIfKnown_102 (lv_at hl 0 rfl) ?_
    obtain rfl := inj1 hf
    subst hQ
    exact CM_iret hx hb hr rfl hlocks hAe hP hD hS dX0_spansIfKnown_104
def rmX0_ridgeToCore : Room := { frames := 2, cells := 0, slots := 0, locals := 50 }
abbrev wqX0_ridgeToCore : List Cond := Cond.code yX0_ridgeToCore cX0_ridgeToCore 7 (some .int) :: tG
set_option maxHeartbeats 4000000 in
set_option maxRecDepth 100000 in
theorem c_X0_ridgeToCore (l : Launch) (dC : Nat → ClassId) (dI : Nat → Nat → Nat) (cI cZ : ClassId) (te : Nat → Nat) (h_t : Nat) (h_t_least : Nat) (h_t_greatest : Nat) (h_t_leastBefore : Nat) (h_t_greatestBefore : Nat) (h_t_ridgeOf : Nat) (h_t_olderOf : Nat) (h_t_lowOf : Nat) (h_t_highOf : Nat) (h_t_cutsBetween : Nat) (h_t_soughtFor : Nat) (t_taken : Int32) (t_soughtSlow : Int32) (t_soughtFast : Int32) (t_lastLeftOut : Int32) (t_least : Nat → Int32) (t_greatest : Nat → Int32) (t_cutsBetween : Nat → Int32) (p1 : Int32) (o0 : Int32) (hf : f_X0_ridgeToCore t_least t_greatest t_cutsBetween p1 = some o0) : CM l yX0_ridgeToCore wqX0_ridgeToCore rmX0_ridgeToCore (kS te) dC dI cI cZ [.ref h_t, .int p1] [(h_t, .inr (0, fX0 h_t_least h_t_greatest h_t_leastBefore h_t_greatestBefore h_t_ridgeOf h_t_olderOf h_t_lowOf h_t_highOf t_taken h_t_cutsBetween h_t_soughtFor t_soughtSlow t_soughtFast t_lastLeftOut)), (h_t_least, .inl (cI, 8, .inl t_least)), (h_t_greatest, .inl (cI, 8, .inl t_greatest)), (h_t_cutsBetween, .inl (cI, 64, .inl t_cutsBetween))] [(h_t, .inr (0, fX0 h_t_least h_t_greatest h_t_leastBefore h_t_greatestBefore h_t_ridgeOf h_t_olderOf h_t_lowOf h_t_highOf t_taken h_t_cutsBetween h_t_soughtFor t_soughtSlow t_soughtFast t_lastLeftOut)), (h_t_least, .inl (cI, 8, .inl t_least)), (h_t_greatest, .inl (cI, 8, .inl t_greatest)), (h_t_cutsBetween, .inl (cI, 64, .inl t_cutsBetween))] (some (.int o0)) := by
  refine CM_of (cc := cX0_ridgeToCore) (maxL := 7) (ret := (some .int)) (by decide +kernel) rfl (Nat.le_of_ble_eq_true rfl) ?_
  intro p e s m args below meth c A Q hx hb hr hml hown hts hlocks hA hK hP hD hS hE hQ hAe ls hl
  have hown : s.vm.findClass RX0 = some m.cls := hown
  have hl : lv_has ls 7 [(0, .ref h_t), (1, .int p1)] := hl
  unfold f_X0_ridgeToCore at hf
  refine lv_iconst (v := (-1 : Int32)) hx hb dX0_ridgeToCore_0 (by decide) ?_
  refine lv_istore_n (lv' := [(2, .int (-1 : Int32)), (0, .ref h_t), (1, .int p1)]) hx hb dX0_ridgeToCore_1 rfl hl (by decide) rfl (fun ls hl => ?_)
  refine lv_iconst (v := (0 : Int32)) hx hb dX0_ridgeToCore_2 (by decide) ?_
  refine lv_istore_n (lv' := [(3, .int (0 : Int32)), (2, .int (-1 : Int32)), (0, .ref h_t), (1, .int p1)]) hx hb dX0_ridgeToCore_3 rfl hl (by decide) rfl (fun ls hl => ?_)
  refine lv_iconst (v := (0 : Int32)) hx hb dX0_ridgeToCore_4 (by decide) ?_
  refine lv_istore (lv' := [(4, .int (0 : Int32)), (3, .int (0 : Int32)), (2, .int (-1 : Int32)), (0, .ref h_t), (1, .int p1)]) hx hb dX0_ridgeToCore_5 hl (by decide) rfl (fun ls hl => ?_)
  have L67 : ∀ (fu37 : Nat) (x33 : Int32) (x34 : Int32) (x35 : Int32) (x32 : Int32), f_X0_ridgeToCore_L3 p1 t_least t_greatest t_cutsBetween fu37 x33 x34 x35 = some x32 → (∀ (H : Heap) (locs : List Loc), va_P (dC, dI) vwCl [(h_t, .inr (0, fX0 h_t_least h_t_greatest h_t_leastBefore h_t_greatestBefore h_t_ridgeOf h_t_olderOf h_t_lowOf h_t_highOf t_taken h_t_cutsBetween h_t_soughtFor t_soughtSlow t_soughtFast t_lastLeftOut)), (h_t_least, .inl (cI, 8, .inl t_least)), (h_t_greatest, .inl (cI, 8, .inl t_greatest)), (h_t_cutsBetween, .inl (cI, 64, .inl t_cutsBetween))] H → va_D A [(h_t, .inr (0, fX0 h_t_least h_t_greatest h_t_leastBefore h_t_greatestBefore h_t_ridgeOf h_t_olderOf h_t_lowOf h_t_highOf t_taken h_t_cutsBetween h_t_soughtFor t_soughtSlow t_soughtFast t_lastLeftOut)), (h_t_least, .inl (cI, 8, .inl t_least)), (h_t_greatest, .inl (cI, 8, .inl t_greatest)), (h_t_cutsBetween, .inl (cI, 64, .inl t_cutsBetween))] → va_S A s.heap H locs → ∀ ls : Array Slot, lv_has ls 7 [(2, .int x32)] → W p l e rmX0_ridgeToCore s m args below meth c H locs 0 0 Q (F0 m 80 ls [])) → ∀ (H : Heap) (locs : List Loc), va_P (dC, dI) vwCl [(h_t, .inr (0, fX0 h_t_least h_t_greatest h_t_leastBefore h_t_greatestBefore h_t_ridgeOf h_t_olderOf h_t_lowOf h_t_highOf t_taken h_t_cutsBetween h_t_soughtFor t_soughtSlow t_soughtFast t_lastLeftOut)), (h_t_least, .inl (cI, 8, .inl t_least)), (h_t_greatest, .inl (cI, 8, .inl t_greatest)), (h_t_cutsBetween, .inl (cI, 64, .inl t_cutsBetween))] H → va_D A [(h_t, .inr (0, fX0 h_t_least h_t_greatest h_t_leastBefore h_t_greatestBefore h_t_ridgeOf h_t_olderOf h_t_lowOf h_t_highOf t_taken h_t_cutsBetween h_t_soughtFor t_soughtSlow t_soughtFast t_lastLeftOut)), (h_t_least, .inl (cI, 8, .inl t_least)), (h_t_greatest, .inl (cI, 8, .inl t_greatest)), (h_t_cutsBetween, .inl (cI, 64, .inl t_cutsBetween))] → va_S A s.heap H locs → ∀ ls : Array Slot, lv_has ls 7 [(0, .ref h_t), (1, .int p1), (2, .int x33), (3, .int x34), (4, .int x35)] → W p l e rmX0_ridgeToCore s m args below meth c H locs 0 0 Q (F0 m 7 ls []) := by
    intro fu37
    induction fu37 with
    | zero =>
      intro x33 x34 x35 x32 hf
      unfold f_X0_ridgeToCore_L3 at hf
      exact none_ne hf
    | succ fu37 ih36 =>
      intro x33 x34 x35 x32 hf hX38 H locs hP hD hS ls hl
      unfold f_X0_ridgeToCore_L3 at hf
      refine lv_iload hx hb dX0_ridgeToCore_7 (lv_at hl 4 rfl) ?_
      refine lv_iload_n hx hb dX0_ridgeToCore_9 rfl (lv_at hl 1 rfl) ?_
      refine lv_icmp_ge (tgt := 80) hx hb dX0_ridgeToCore_10 (by decide) (fun c39 => ?_) (fun c39 => ?_)
      · replace hf := ifp c39 hf
        obtain rfl := inj1 hf
        exact hX38 _ _ hP hD hS _ (lv_sub hl [2] rfl)
      · replace hf := ifn c39 hf
        refine lv_iconst (v := (0 : Int32)) hx hb dX0_ridgeToCore_13 (by decide) ?_
        refine lv_istore (lv' := [(5, .int (0 : Int32)), (0, .ref h_t), (1, .int p1), (2, .int x33), (3, .int x34), (4, .int x35)]) hx hb dX0_ridgeToCore_14 hl (by decide) rfl (fun ls hl => ?_)
        refine lv_aload_n hx hb dX0_ridgeToCore_16 rfl (lv_at hl 1 rfl) ?_
        refine lv_iload hx hb dX0_ridgeToCore_17 (lv_at hl 5 rfl) ?_
        obtain ⟨r40, hg41, hf⟩ := bd1_some hf
        refine CM_callV (C := RX0) (As := [.int x35]) (rest := []) (wc := [(h_t, .inr (0, fX0 h_t_least h_t_greatest h_t_leastBefore h_t_greatestBefore h_t_ridgeOf h_t_olderOf h_t_lowOf h_t_highOf t_taken h_t_cutsBetween h_t_soughtFor t_soughtSlow t_soughtFast t_lastLeftOut)), (h_t_least, .inl (cI, 8, .inl t_least))]) (w1 := [(h_t, .inr (0, fX0 h_t_least h_t_greatest h_t_leastBefore h_t_greatestBefore h_t_ridgeOf h_t_olderOf h_t_lowOf h_t_highOf t_taken h_t_cutsBetween h_t_soughtFor t_soughtSlow t_soughtFast t_lastLeftOut)), (h_t_least, .inl (cI, 8, .inl t_least))]) (wr := [(h_t_greatest, .inl (cI, 8, .inl t_greatest)), (h_t_cutsBetween, .inl (cI, 64, .inl t_cutsBetween))]) (wo := [(h_t, .inr (0, fX0 h_t_least h_t_greatest h_t_leastBefore h_t_greatestBefore h_t_ridgeOf h_t_olderOf h_t_lowOf h_t_highOf t_taken h_t_cutsBetween h_t_soughtFor t_soughtSlow t_soughtFast t_lastLeftOut)), (h_t_least, .inl (cI, 8, .inl t_least)), (h_t_greatest, .inl (cI, 8, .inl t_greatest)), (h_t_cutsBetween, .inl (cI, 64, .inl t_cutsBetween))]) (v := (some (.int r40))) ⟨hx, hb, hml, hown, hts⟩ (c_X0_leastOf l dC dI cI cZ te h_t h_t_least h_t_greatest h_t_leastBefore h_t_greatestBefore h_t_ridgeOf h_t_olderOf h_t_lowOf h_t_highOf h_t_cutsBetween h_t_soughtFor t_taken t_soughtSlow t_soughtFast t_lastLeftOut t_least x35 r40 hg41) (cwV 1 hts (gV kw_489 kw_490 kw_491 kw_88 kw_492) rfl rfl rfl (by decide +kernel) ⟨Nat.le_of_ble_eq_true rfl, Nat.le_of_ble_eq_true rfl⟩) (kS_env te) hK hP hD hS hA hE [0, 1] [2, 3] [2, 3, 0, 1] rfl rfl (by decide) (by decide) (by decide) (by decide) rfl 0 0 rfl rfl rfl rfl hl.1 rfl (Nat.le_of_ble_eq_true rfl) dX0_ridgeToCore_19 ⟨Nat.zero_le _, Nat.zero_le _⟩ (fun H locs hP hD hS => ?_)
        show W p l e rmX0_ridgeToCore s m args below meth c H locs 0 0 Q (F0 m 22 ls [.int r40])
        refine lv_istore (lv' := [(6, .int r40), (5, .int (0 : Int32)), (0, .ref h_t), (1, .int p1), (2, .int x33), (3, .int x34), (4, .int x35)]) hx hb dX0_ridgeToCore_22 hl (by decide) rfl (fun ls hl => ?_)
        have L64 : ∀ (fu55 : Nat) (x52 : Int32) (x53 : Int32) (x51 : Int32), f_X0_ridgeToCore_L4 t_greatest x35 t_least t_cutsBetween p1 fu55 x52 x53 = some x51 → (∀ (H : Heap) (locs : List Loc), va_P (dC, dI) vwCl [(h_t, .inr (0, fX0 h_t_least h_t_greatest h_t_leastBefore h_t_greatestBefore h_t_ridgeOf h_t_olderOf h_t_lowOf h_t_highOf t_taken h_t_cutsBetween h_t_soughtFor t_soughtSlow t_soughtFast t_lastLeftOut)), (h_t_least, .inl (cI, 8, .inl t_least)), (h_t_greatest, .inl (cI, 8, .inl t_greatest)), (h_t_cutsBetween, .inl (cI, 64, .inl t_cutsBetween))] H → va_D A [(h_t, .inr (0, fX0 h_t_least h_t_greatest h_t_leastBefore h_t_greatestBefore h_t_ridgeOf h_t_olderOf h_t_lowOf h_t_highOf t_taken h_t_cutsBetween h_t_soughtFor t_soughtSlow t_soughtFast t_lastLeftOut)), (h_t_least, .inl (cI, 8, .inl t_least)), (h_t_greatest, .inl (cI, 8, .inl t_greatest)), (h_t_cutsBetween, .inl (cI, 64, .inl t_cutsBetween))] → va_S A s.heap H locs → ∀ ls : Array Slot, lv_has ls 7 [(0, .ref h_t), (1, .int p1), (2, .int x33), (3, .int x34), (4, .int x35), (5, .int x51)] → W p l e rmX0_ridgeToCore s m args below meth c H locs 0 0 Q (F0 m 57 ls [])) → ∀ (H : Heap) (locs : List Loc), va_P (dC, dI) vwCl [(h_t, .inr (0, fX0 h_t_least h_t_greatest h_t_leastBefore h_t_greatestBefore h_t_ridgeOf h_t_olderOf h_t_lowOf h_t_highOf t_taken h_t_cutsBetween h_t_soughtFor t_soughtSlow t_soughtFast t_lastLeftOut)), (h_t_least, .inl (cI, 8, .inl t_least)), (h_t_greatest, .inl (cI, 8, .inl t_greatest)), (h_t_cutsBetween, .inl (cI, 64, .inl t_cutsBetween))] H → va_D A [(h_t, .inr (0, fX0 h_t_least h_t_greatest h_t_leastBefore h_t_greatestBefore h_t_ridgeOf h_t_olderOf h_t_lowOf h_t_highOf t_taken h_t_cutsBetween h_t_soughtFor t_soughtSlow t_soughtFast t_lastLeftOut)), (h_t_least, .inl (cI, 8, .inl t_least)), (h_t_greatest, .inl (cI, 8, .inl t_greatest)), (h_t_cutsBetween, .inl (cI, 64, .inl t_cutsBetween))] → va_S A s.heap H locs → ∀ ls : Array Slot, lv_has ls 7 [(0, .ref h_t), (1, .int p1), (2, .int x33), (3, .int x34), (4, .int x35), (5, .int x52), (6, .int x53)] → W p l e rmX0_ridgeToCore s m args below meth c H locs 0 0 Q (F0 m 24 ls []) := by
          intro fu55
          induction fu55 with
          | zero =>
            intro x52 x53 x51 hf
            unfold f_X0_ridgeToCore_L4 at hf
            exact none_ne hf
          | succ fu55 ih54 =>
            intro x52 x53 x51 hf hX56 H locs hP hD hS ls hl
            unfold f_X0_ridgeToCore_L4 at hf
            refine lv_iload hx hb dX0_ridgeToCore_24 (lv_at hl 6 rfl) ?_
            refine lv_aload_n hx hb dX0_ridgeToCore_26 rfl (lv_at hl 0 rfl) ?_
            refine lv_iload hx hb dX0_ridgeToCore_27 (lv_at hl 4 rfl) ?_
            obtain ⟨r57, hg58, hf⟩ := bd1_some hf
            refine CM_callV (C := RX0) (As := [.int x35]) (rest := [.int x53]) (wc := [(h_t, .inr (0, fX0 h_t_least h_t_greatest h_t_leastBefore h_t_greatestBefore h_t_ridgeOf h_t_olderOf h_t_lowOf h_t_highOf t_taken h_t_cutsBetween h_t_soughtFor t_soughtSlow t_soughtFast t_lastLeftOut)), (h_t_greatest, .inl (cI, 8, .inl t_greatest))]) (w1 := [(h_t, .inr (0, fX0 h_t_least h_t_greatest h_t_leastBefore h_t_greatestBefore h_t_ridgeOf h_t_olderOf h_t_lowOf h_t_highOf t_taken h_t_cutsBetween h_t_soughtFor t_soughtSlow t_soughtFast t_lastLeftOut)), (h_t_greatest, .inl (cI, 8, .inl t_greatest))]) (wr := [(h_t_least, .inl (cI, 8, .inl t_least)), (h_t_cutsBetween, .inl (cI, 64, .inl t_cutsBetween))]) (wo := [(h_t, .inr (0, fX0 h_t_least h_t_greatest h_t_leastBefore h_t_greatestBefore h_t_ridgeOf h_t_olderOf h_t_lowOf h_t_highOf t_taken h_t_cutsBetween h_t_soughtFor t_soughtSlow t_soughtFast t_lastLeftOut)), (h_t_least, .inl (cI, 8, .inl t_least)), (h_t_greatest, .inl (cI, 8, .inl t_greatest)), (h_t_cutsBetween, .inl (cI, 64, .inl t_cutsBetween))]) (v := (some (.int r57))) ⟨hx, hb, hml, hown, hts⟩ (c_X0_greatestOf l dC dI cI cZ te h_t h_t_least h_t_greatest h_t_leastBefore h_t_greatestBefore h_t_ridgeOf h_t_olderOf h_t_lowOf h_t_highOf h_t_cutsBetween h_t_soughtFor t_taken t_soughtSlow t_soughtFast t_lastLeftOut t_greatest x35 r57 hg58) (cwV 1 hts (gV kw_485 kw_486 kw_487 kw_88 kw_488) rfl rfl rfl (by decide +kernel) ⟨Nat.le_of_ble_eq_true rfl, Nat.le_of_ble_eq_true rfl⟩) (kS_env te) hK hP hD hS hA hE [0, 2] [1, 3] [2, 0, 3, 1] rfl rfl (by decide) (by decide) (by decide) (by decide) rfl 0 0 rfl rfl rfl rfl hl.1 rfl (Nat.le_of_ble_eq_true rfl) dX0_ridgeToCore_29 ⟨Nat.zero_le _, Nat.zero_le _⟩ (fun H locs hP hD hS => ?_)
            show W p l e rmX0_ridgeToCore s m args below meth c H locs 0 0 Q (F0 m 32 ls [.int r57, .int x53])
            refine lv_icmp_gt (tgt := 57) hx hb dX0_ridgeToCore_32 (by decide) (fun c59 => ?_) (fun c59 => ?_)
            · replace hf := ifp c59 hf
              obtain rfl := inj1 hf
              exact hX56 _ _ hP hD hS _ (lv_sub hl [0, 1, 2, 3, 4, 5] rfl)
            · replace hf := ifn c59 hf
              refine lv_iload hx hb dX0_ridgeToCore_35 (lv_at hl 5 rfl) ?_
              refine lv_aload_n hx hb dX0_ridgeToCore_37 rfl (lv_at hl 0 rfl) ?_
              refine lv_iload_n hx hb dX0_ridgeToCore_38 rfl (lv_at hl 1 rfl) ?_
              refine lv_iload hx hb dX0_ridgeToCore_39 (lv_at hl 4 rfl) ?_
              refine lv_iload hx hb dX0_ridgeToCore_41 (lv_at hl 6 rfl) ?_
              obtain ⟨r60, hg61, hf⟩ := bd1_some hf
              refine CM_callV (C := RX0) (As := [.int p1, .int x35, .int x53]) (rest := [.int x52]) (wc := [(h_t, .inr (0, fX0 h_t_least h_t_greatest h_t_leastBefore h_t_greatestBefore h_t_ridgeOf h_t_olderOf h_t_lowOf h_t_highOf t_taken h_t_cutsBetween h_t_soughtFor t_soughtSlow t_soughtFast t_lastLeftOut)), (h_t_least, .inl (cI, 8, .inl t_least)), (h_t_greatest, .inl (cI, 8, .inl t_greatest)), (h_t_cutsBetween, .inl (cI, 64, .inl t_cutsBetween))]) (w1 := [(h_t, .inr (0, fX0 h_t_least h_t_greatest h_t_leastBefore h_t_greatestBefore h_t_ridgeOf h_t_olderOf h_t_lowOf h_t_highOf t_taken h_t_cutsBetween h_t_soughtFor t_soughtSlow t_soughtFast t_lastLeftOut)), (h_t_least, .inl (cI, 8, .inl t_least)), (h_t_greatest, .inl (cI, 8, .inl t_greatest)), (h_t_cutsBetween, .inl (cI, 64, .inl t_cutsBetween))]) (wr := []) (wo := [(h_t, .inr (0, fX0 h_t_least h_t_greatest h_t_leastBefore h_t_greatestBefore h_t_ridgeOf h_t_olderOf h_t_lowOf h_t_highOf t_taken h_t_cutsBetween h_t_soughtFor t_soughtSlow t_soughtFast t_lastLeftOut)), (h_t_least, .inl (cI, 8, .inl t_least)), (h_t_greatest, .inl (cI, 8, .inl t_greatest)), (h_t_cutsBetween, .inl (cI, 64, .inl t_cutsBetween))]) (v := (some (.int r60))) ⟨hx, hb, hml, hown, hts⟩ (c_X0_spansIfKnown l dC dI cI cZ te h_t h_t_least h_t_greatest h_t_leastBefore h_t_greatestBefore h_t_ridgeOf h_t_olderOf h_t_lowOf h_t_highOf h_t_cutsBetween h_t_soughtFor t_taken t_soughtSlow t_soughtFast t_lastLeftOut t_least t_greatest t_cutsBetween p1 x35 x53 r60 hg61) (cwV 3 hts (gV kw_493 kw_494 kw_495 kw_88 kw_496) rfl rfl rfl (by decide +kernel) ⟨Nat.le_of_ble_eq_true rfl, Nat.le_of_ble_eq_true rfl⟩) (kS_env te) hK hP hD hS hA hE [0, 1, 2, 3] [] [0, 1, 2, 3] rfl rfl (by decide) (by decide) (by decide) (by decide) rfl 0 0 rfl rfl rfl rfl hl.1 rfl (Nat.le_of_ble_eq_true rfl) dX0_ridgeToCore_43 ⟨Nat.zero_le _, Nat.zero_le _⟩ (fun H locs hP hD hS => ?_)
              show W p l e rmX0_ridgeToCore s m args below meth c H locs 0 0 Q (F0 m 46 ls [.int r60, .int x52])
              refine va_mmax hx hb (hml.trans hl.1.symm) hown (hts _ (List.mem_cons_of_mem _ kw_422)) (hts _ (List.mem_cons_of_mem _ kw_8)) (hts _ (List.mem_cons_of_mem _ kw_5)) (hts _ (List.mem_cons_of_mem _ kw_9)) (Nat.le_of_ble_eq_true rfl) (Nat.le_of_ble_eq_true rfl) (Nat.zero_le _) (Nat.zero_le _) dX0_ridgeToCore_46 ?_
              obtain ⟨x62, e63, hf⟩ := nm_some hf
              refine lv_tope e63 ?_
              refine lv_istore (lv' := [(5, .int x62), (0, .ref h_t), (1, .int p1), (2, .int x33), (3, .int x34), (4, .int x35), (6, .int x53)]) hx hb dX0_ridgeToCore_49 hl (by decide) rfl (fun ls hl => ?_)
              refine lv_iinc (v := (x53 + (1 : Int32))) (lv' := [(6, .int (x53 + (1 : Int32))), (5, .int x62), (0, .ref h_t), (1, .int p1), (2, .int x33), (3, .int x34), (4, .int x35)]) hx hb dX0_ridgeToCore_51 hl (k := 6) rfl rfl (by decide) rfl (fun ls hl => ?_)
              refine lv_goto (tgt := 24) hx hb dX0_ridgeToCore_54 (by decide) ?_
              exact ih54 _ _ _ hf hX56 _ _ hP hD hS _ (lv_sub hl [2, 3, 4, 5, 6, 1, 0] rfl)
        obtain ⟨x51, hg, hf⟩ := bd1_some hf
        refine L64 FU _ _ _ hg ?_ _ _ hP hD hS _ (lv_sub hl [2, 3, 4, 5, 6, 1, 0] rfl)
        · intro H locs hP hD hS ls hl
          refine lv_iload_n hx hb dX0_ridgeToCore_57 rfl (lv_at hl 2 rfl) ?_
          refine lv_iconst (v := (-1 : Int32)) hx hb dX0_ridgeToCore_58 (by decide) ?_
          refine lv_icmp_eq (tgt := 68) hx hb dX0_ridgeToCore_59 (by decide) (fun c65 => ?_) (fun c65 => ?_)
          · replace hf := ifp c65 hf
            refine lv_iload hx hb dX0_ridgeToCore_68 (lv_at hl 4 rfl) ?_
            refine lv_istore_n (lv' := [(2, .int x35), (0, .ref h_t), (1, .int p1), (3, .int x34), (4, .int x35), (5, .int x51)]) hx hb dX0_ridgeToCore_70 rfl hl (by decide) rfl (fun ls hl => ?_)
            refine lv_iload hx hb dX0_ridgeToCore_71 (lv_at hl 5 rfl) ?_
            refine lv_istore_n (lv' := [(3, .int x51), (2, .int x35), (0, .ref h_t), (1, .int p1), (4, .int x35), (5, .int x51)]) hx hb dX0_ridgeToCore_73 rfl hl (by decide) rfl (fun ls hl => ?_)
            refine lv_iinc (v := (x35 + (1 : Int32))) (lv' := [(4, .int (x35 + (1 : Int32))), (3, .int x51), (2, .int x35), (0, .ref h_t), (1, .int p1), (5, .int x51)]) hx hb dX0_ridgeToCore_74 hl (k := 4) rfl rfl (by decide) rfl (fun ls hl => ?_)
            refine lv_goto (tgt := 7) hx hb dX0_ridgeToCore_77 (by decide) ?_
            exact ih36 _ _ _ _ hf hX38 _ _ hP hD hS _ (lv_sub hl [3, 4, 2, 1, 0] rfl)
          · replace hf := ifn c65 hf
            refine lv_iload hx hb dX0_ridgeToCore_62 (lv_at hl 5 rfl) ?_
            refine lv_iload_n hx hb dX0_ridgeToCore_64 rfl (lv_at hl 3 rfl) ?_
            refine lv_icmp_ge (tgt := 74) hx hb dX0_ridgeToCore_65 (by decide) (fun c66 => ?_) (fun c66 => ?_)
            · replace hf := ifp c66 hf
              refine lv_iinc (v := (x35 + (1 : Int32))) (lv' := [(4, .int (x35 + (1 : Int32))), (0, .ref h_t), (1, .int p1), (2, .int x33), (3, .int x34), (5, .int x51)]) hx hb dX0_ridgeToCore_74 hl (k := 4) rfl rfl (by decide) rfl (fun ls hl => ?_)
              refine lv_goto (tgt := 7) hx hb dX0_ridgeToCore_77 (by decide) ?_
              exact ih36 _ _ _ _ hf hX38 _ _ hP hD hS _ (lv_sub hl [1, 2, 3, 4, 0] rfl)
            · replace hf := ifn c66 hf
              refine lv_iload hx hb dX0_ridgeToCore_68 (lv_at hl 4 rfl) ?_
              refine lv_istore_n (lv' := [(2, .int x35), (0, .ref h_t), (1, .int p1), (3, .int x34), (4, .int x35), (5, .int x51)]) hx hb dX0_ridgeToCore_70 rfl hl (by decide) rfl (fun ls hl => ?_)
              refine lv_iload hx hb dX0_ridgeToCore_71 (lv_at hl 5 rfl) ?_
              refine lv_istore_n (lv' := [(3, .int x51), (2, .int x35), (0, .ref h_t), (1, .int p1), (4, .int x35), (5, .int x51)]) hx hb dX0_ridgeToCore_73 rfl hl (by decide) rfl (fun ls hl => ?_)
              refine lv_iinc (v := (x35 + (1 : Int32))) (lv' := [(4, .int (x35 + (1 : Int32))), (3, .int x51), (2, .int x35), (0, .ref h_t), (1, .int p1), (5, .int x51)]) hx hb dX0_ridgeToCore_74 hl (k := 4) rfl rfl (by decide) rfl (fun ls hl => ?_)
              refine lv_goto (tgt := 7) hx hb dX0_ridgeToCore_77 (by decide) ?_
              exact ih36 _ _ _ _ hf hX38 _ _ hP hD hS _ (lv_sub hl [3, 4, 2, 1, 0] rfl)
  obtain ⟨x32, hg, hf⟩ := bd1_some hf
  refine L67 FU _ _ _ _ hg ?_ _ _ hP hD hS _ (lv_sub hl [3, 4, 2, 1, 0] rfl)
  · intro H locs hP hD hS ls hl
    refine lv_iload_n hx hb dX0_ridgeToCore_80 rfl (lv_at hl 0 rfl) ?_
    obtain rfl := inj1 hf
    subst hQ
    exact CM_iret hx hb hr rfl hlocks hAe hP hD hS dX0_ridgeToCore_81
def rmX0_bitsOfScholar : Room := { frames := 2, cells := 0, slots := 0, locals := 43 }
abbrev wqX0_bitsOfScholar : List Cond := Cond.code yX0_bitsOfScholar cX0_bitsOfScholar 4 (some .int) :: tG
set_option maxHeartbeats 4000000 in
set_option maxRecDepth 100000 in
theorem c_X0_bitsOfScholar (l : Launch) (dC : Nat → ClassId) (dI : Nat → Nat → Nat) (cI cZ : ClassId) (te : Nat → Nat) (h_p1 : Nat) (h_p1_surfaces : Nat) (h_p1_cliffs : Nat) (h_p1_boulders : Nat) (h_p1_scratches : Nat) (h_p1_numbers : Nat) (h_p1_facts : Nat) (h_p1_signs : Nat) (h_p1_areas : Nat) (h_p1_heights : Nat) (h_p1_facts_cells : Nat) (p1_ridges : Int32) (p1_facts_limit : Int32) (p1_facts_size : Int32) (n_p1_facts_cells : Nat) (p1_facts_cells : Nat → Int32) (p2 : Int32) (o0 : Int32) (hf : f_X0_bitsOfScholar p1_facts_size n_p1_facts_cells p1_facts_cells p2 = some o0) : CM l yX0_bitsOfScholar wqX0_bitsOfScholar rmX0_bitsOfScholar (kS te) dC dI cI cZ [.ref h_p1, .int p2] [(h_p1, .inr (1, fX1 h_p1_surfaces h_p1_cliffs h_p1_boulders h_p1_scratches h_p1_numbers h_p1_facts h_p1_signs h_p1_areas h_p1_heights p1_ridges)), (h_p1_facts, .inr (4, fX4 p1_facts_limit h_p1_facts_cells p1_facts_size)), (h_p1_facts_cells, .inl (cI, n_p1_facts_cells, .inl p1_facts_cells))] [(h_p1, .inr (1, fX1 h_p1_surfaces h_p1_cliffs h_p1_boulders h_p1_scratches h_p1_numbers h_p1_facts h_p1_signs h_p1_areas h_p1_heights p1_ridges)), (h_p1_facts, .inr (4, fX4 p1_facts_limit h_p1_facts_cells p1_facts_size)), (h_p1_facts_cells, .inl (cI, n_p1_facts_cells, .inl p1_facts_cells))] (some (.int o0)) := by
  refine CM_of (cc := cX0_bitsOfScholar) (maxL := 4) (ret := (some .int)) (by decide +kernel) rfl (Nat.le_of_ble_eq_true rfl) ?_
  intro p e s m args below meth c A Q hx hb hr hml hown hts hlocks hA hK hP hD hS hE hQ hAe ls hl
  have hown : s.vm.findClass RX0 = some m.cls := hown
  have hl : lv_has ls 4 [(0, .ref h_p1), (1, .int p2)] := hl
  unfold f_X0_bitsOfScholar at hf
  refine lv_iconst (v := (0 : Int32)) hx hb dX0_bitsOfScholar_0 (by decide) ?_
  refine lv_istore_n (lv' := [(2, .int (0 : Int32)), (0, .ref h_p1), (1, .int p2)]) hx hb dX0_bitsOfScholar_1 rfl hl (by decide) rfl (fun ls hl => ?_)
  refine lv_iconst (v := (0 : Int32)) hx hb dX0_bitsOfScholar_2 (by decide) ?_
  refine lv_istore_n (lv' := [(3, .int (0 : Int32)), (2, .int (0 : Int32)), (0, .ref h_p1), (1, .int p2)]) hx hb dX0_bitsOfScholar_3 rfl hl (by decide) rfl (fun ls hl => ?_)
  have L25 : ∀ (fu15 : Nat) (x12 : Int32) (x13 : Int32) (x11 : Int32), f_X0_bitsOfScholar_L1 p1_facts_size n_p1_facts_cells p1_facts_cells p2 fu15 x12 x13 = some x11 → (∀ (H : Heap) (locs : List Loc), va_P (dC, dI) vwCl [(h_p1, .inr (1, fX1 h_p1_surfaces h_p1_cliffs h_p1_boulders h_p1_scratches h_p1_numbers h_p1_facts h_p1_signs h_p1_areas h_p1_heights p1_ridges)), (h_p1_facts, .inr (4, fX4 p1_facts_limit h_p1_facts_cells p1_facts_size)), (h_p1_facts_cells, .inl (cI, n_p1_facts_cells, .inl p1_facts_cells))] H → va_D A [(h_p1, .inr (1, fX1 h_p1_surfaces h_p1_cliffs h_p1_boulders h_p1_scratches h_p1_numbers h_p1_facts h_p1_signs h_p1_areas h_p1_heights p1_ridges)), (h_p1_facts, .inr (4, fX4 p1_facts_limit h_p1_facts_cells p1_facts_size)), (h_p1_facts_cells, .inl (cI, n_p1_facts_cells, .inl p1_facts_cells))] → va_S A s.heap H locs → ∀ ls : Array Slot, lv_has ls 4 [(2, .int x11)] → W p l e rmX0_bitsOfScholar s m args below meth c H locs 0 0 Q (F0 m 40 ls [])) → ∀ (H : Heap) (locs : List Loc), va_P (dC, dI) vwCl [(h_p1, .inr (1, fX1 h_p1_surfaces h_p1_cliffs h_p1_boulders h_p1_scratches h_p1_numbers h_p1_facts h_p1_signs h_p1_areas h_p1_heights p1_ridges)), (h_p1_facts, .inr (4, fX4 p1_facts_limit h_p1_facts_cells p1_facts_size)), (h_p1_facts_cells, .inl (cI, n_p1_facts_cells, .inl p1_facts_cells))] H → va_D A [(h_p1, .inr (1, fX1 h_p1_surfaces h_p1_cliffs h_p1_boulders h_p1_scratches h_p1_numbers h_p1_facts h_p1_signs h_p1_areas h_p1_heights p1_ridges)), (h_p1_facts, .inr (4, fX4 p1_facts_limit h_p1_facts_cells p1_facts_size)), (h_p1_facts_cells, .inl (cI, n_p1_facts_cells, .inl p1_facts_cells))] → va_S A s.heap H locs → ∀ ls : Array Slot, lv_has ls 4 [(0, .ref h_p1), (1, .int p2), (2, .int x12), (3, .int x13)] → W p l e rmX0_bitsOfScholar s m args below meth c H locs 0 0 Q (F0 m 4 ls []) := by
    intro fu15
    induction fu15 with
    | zero =>
      intro x12 x13 x11 hf
      unfold f_X0_bitsOfScholar_L1 at hf
      exact none_ne hf
    | succ fu15 ih14 =>
      intro x12 x13 x11 hf hX16 H locs hP hD hS ls hl
      unfold f_X0_bitsOfScholar_L1 at hf
      refine lv_iload_n hx hb dX0_bitsOfScholar_4 rfl (lv_at hl 3 rfl) ?_
      refine lv_aload_n hx hb dX0_bitsOfScholar_5 rfl (lv_at hl 0 rfl) ?_
      refine va_get (D := (dC, dI)) (ci := 1) (v := .ref h_p1_facts) (C := RX1) (T := TX1) (N := 10) hx hb hts (in1 tw_X1) hown hK hP 0 rfl rfl 5 (by decide) (hts _ (List.mem_cons_of_mem _ kw_402)) (fun _ h9 => h9) rfl dX0_bitsOfScholar_6 ?_
      obtain ⟨r17, hg18, hf⟩ := bd1_some hf
      refine CM_callV (C := RX4) (As := []) (rest := [.int x13]) (wc := [(h_p1_facts, .inr (4, fX4 p1_facts_limit h_p1_facts_cells p1_facts_size))]) (w1 := [(h_p1_facts, .inr (4, fX4 p1_facts_limit h_p1_facts_cells p1_facts_size))]) (wr := [(h_p1, .inr (1, fX1 h_p1_surfaces h_p1_cliffs h_p1_boulders h_p1_scratches h_p1_numbers h_p1_facts h_p1_signs h_p1_areas h_p1_heights p1_ridges)), (h_p1_facts_cells, .inl (cI, n_p1_facts_cells, .inl p1_facts_cells))]) (wo := [(h_p1, .inr (1, fX1 h_p1_surfaces h_p1_cliffs h_p1_boulders h_p1_scratches h_p1_numbers h_p1_facts h_p1_signs h_p1_areas h_p1_heights p1_ridges)), (h_p1_facts, .inr (4, fX4 p1_facts_limit h_p1_facts_cells p1_facts_size)), (h_p1_facts_cells, .inl (cI, n_p1_facts_cells, .inl p1_facts_cells))]) (v := (some (.int r17))) ⟨hx, hb, hml, hown, hts⟩ (c_X4_size l dC dI cI cZ te h_p1_facts h_p1_facts_cells p1_facts_limit p1_facts_size r17 hg18) (cwV 0 hts (gV kw_403 kw_404 kw_405 kw_19 kw_406) rfl rfl rfl (by decide +kernel) ⟨Nat.le_of_ble_eq_true rfl, Nat.le_of_ble_eq_true rfl⟩) (kS_env te) hK hP hD hS hA hE [1] [0, 2] [0, 2, 1] rfl rfl (by decide) (by decide) (by decide) (by decide) rfl 1 4 rfl rfl rfl rfl hl.1 rfl (Nat.le_of_ble_eq_true rfl) dX0_bitsOfScholar_9 ⟨Nat.zero_le _, Nat.zero_le _⟩ (fun H locs hP hD hS => ?_)
      show W p l e rmX0_bitsOfScholar s m args below meth c H locs 0 0 Q (F0 m 12 ls [.int r17, .int x13])
      refine lv_icmp_ge (tgt := 40) hx hb dX0_bitsOfScholar_12 (by decide) (fun c19 => ?_) (fun c19 => ?_)
      · replace hf := ifp c19 hf
        obtain rfl := inj1 hf
        exact hX16 _ _ hP hD hS _ (lv_sub hl [2] rfl)
      · replace hf := ifn c19 hf
        refine lv_aload_n hx hb dX0_bitsOfScholar_15 rfl (lv_at hl 0 rfl) ?_
        refine va_get (D := (dC, dI)) (ci := 1) (v := .ref h_p1_facts) (C := RX1) (T := TX1) (N := 10) hx hb hts (in1 tw_X1) hown hK hP 0 rfl rfl 5 (by decide) (hts _ (List.mem_cons_of_mem _ kw_402)) (fun _ h9 => h9) rfl dX0_bitsOfScholar_16 ?_
        refine lv_iload_n hx hb dX0_bitsOfScholar_19 rfl (lv_at hl 3 rfl) ?_
        refine lv_iconst (v := (0 : Int32)) hx hb dX0_bitsOfScholar_20 (by decide) ?_
        obtain ⟨r20, hg21, hf⟩ := bd1_some hf
        refine CM_callV (C := RX4) (As := [.int x13, .int (0 : Int32)]) (rest := []) (wc := [(h_p1_facts, .inr (4, fX4 p1_facts_limit h_p1_facts_cells p1_facts_size)), (h_p1_facts_cells, .inl (cI, n_p1_facts_cells, .inl p1_facts_cells))]) (w1 := [(h_p1_facts, .inr (4, fX4 p1_facts_limit h_p1_facts_cells p1_facts_size)), (h_p1_facts_cells, .inl (cI, n_p1_facts_cells, .inl p1_facts_cells))]) (wr := [(h_p1, .inr (1, fX1 h_p1_surfaces h_p1_cliffs h_p1_boulders h_p1_scratches h_p1_numbers h_p1_facts h_p1_signs h_p1_areas h_p1_heights p1_ridges))]) (wo := [(h_p1, .inr (1, fX1 h_p1_surfaces h_p1_cliffs h_p1_boulders h_p1_scratches h_p1_numbers h_p1_facts h_p1_signs h_p1_areas h_p1_heights p1_ridges)), (h_p1_facts, .inr (4, fX4 p1_facts_limit h_p1_facts_cells p1_facts_size)), (h_p1_facts_cells, .inl (cI, n_p1_facts_cells, .inl p1_facts_cells))]) (v := (some (.int r20))) ⟨hx, hb, hml, hown, hts⟩ (c_X4_cell l dC dI cI cZ te h_p1_facts h_p1_facts_cells p1_facts_limit p1_facts_size n_p1_facts_cells p1_facts_cells x13 (0 : Int32) r20 hg21) (cwV 2 hts (gV kw_413 kw_414 kw_415 kw_19 kw_416) rfl rfl rfl (by decide +kernel) ⟨Nat.le_of_ble_eq_true rfl, Nat.le_of_ble_eq_true rfl⟩) (kS_env te) hK hP hD hS hA hE [1, 2] [0] [0, 1, 2] rfl rfl (by decide) (by decide) (by decide) (by decide) rfl 1 4 rfl rfl rfl rfl hl.1 rfl (Nat.le_of_ble_eq_true rfl) dX0_bitsOfScholar_21 ⟨Nat.zero_le _, Nat.zero_le _⟩ (fun H locs hP hD hS => ?_)
        show W p l e rmX0_bitsOfScholar s m args below meth c H locs 0 0 Q (F0 m 24 ls [.int r20])
        refine lv_iload_n hx hb dX0_bitsOfScholar_24 rfl (lv_at hl 1 rfl) ?_
        refine lv_icmp_ne (tgt := 34) hx hb dX0_bitsOfScholar_25 (by decide) (fun c22 => ?_) (fun c22 => ?_)
        · replace hf := ifn c22 hf
          refine lv_iinc (v := (x13 + (1 : Int32))) (lv' := [(3, .int (x13 + (1 : Int32))), (0, .ref h_p1), (1, .int p2), (2, .int x12)]) hx hb dX0_bitsOfScholar_34 hl (k := 3) rfl rfl (by decide) rfl (fun ls hl => ?_)
          refine lv_goto (tgt := 4) hx hb dX0_bitsOfScholar_37 (by decide) ?_
          exact ih14 _ _ _ hf hX16 _ _ hP hD hS _ (lv_sub hl [1, 2, 3, 0] rfl)
        · replace hf := ifp c22 hf
          refine lv_iload_n hx hb dX0_bitsOfScholar_28 rfl (lv_at hl 2 rfl) ?_
          refine lv_iconst (v := (1 : Int32)) hx hb dX0_bitsOfScholar_29 (by decide) ?_
          refine lv_iload_n hx hb dX0_bitsOfScholar_30 rfl (lv_at hl 3 rfl) ?_
          refine lv_ishl hx hb dX0_bitsOfScholar_31 ?_
          refine lv_ior hx hb dX0_bitsOfScholar_32 ?_
          obtain ⟨x23, e24, hf⟩ := nm_some hf
          refine lv_tope e24 ?_
          refine lv_istore_n (lv' := [(2, .int x23), (0, .ref h_p1), (1, .int p2), (3, .int x13)]) hx hb dX0_bitsOfScholar_33 rfl hl (by decide) rfl (fun ls hl => ?_)
          refine lv_iinc (v := (x13 + (1 : Int32))) (lv' := [(3, .int (x13 + (1 : Int32))), (2, .int x23), (0, .ref h_p1), (1, .int p2)]) hx hb dX0_bitsOfScholar_34 hl (k := 3) rfl rfl (by decide) rfl (fun ls hl => ?_)
          refine lv_goto (tgt := 4) hx hb dX0_bitsOfScholar_37 (by decide) ?_
          exact ih14 _ _ _ hf hX16 _ _ hP hD hS _ (lv_sub hl [2, 3, 1, 0] rfl)
  obtain ⟨x11, hg, hf⟩ := bd1_some hf
  refine L25 FU _ _ _ hg ?_ _ _ hP hD hS _ (lv_sub hl [2, 3, 1, 0] rfl)
  · intro H locs hP hD hS ls hl
    refine lv_iload_n hx hb dX0_bitsOfScholar_40 rfl (lv_at hl 0 rfl) ?_
    obtain rfl := inj1 hf
    subst hQ
    exact CM_iret hx hb hr rfl hlocks hAe hP hD hS dX0_bitsOfScholar_41
def rmX0_firstParted : Room := { frames := 4, cells := 0, slots := 0, locals := 89 }
abbrev wqX0_firstParted : List Cond := Cond.code yX0_firstParted cX0_firstParted 4 (some .int) :: tG
set_option maxHeartbeats 4000000 in
set_option maxRecDepth 100000 in
theorem c_X0_firstParted (l : Launch) (dC : Nat → ClassId) (dI : Nat → Nat → Nat) (cI cZ : ClassId) (te : Nat → Nat) (h_t : Nat) (h_p1 : Nat) (h_p1_surfaces : Nat) (h_p1_cliffs : Nat) (h_p1_boulders : Nat) (h_p1_scratches : Nat) (h_p1_numbers : Nat) (h_p1_facts : Nat) (h_p1_signs : Nat) (h_p1_areas : Nat) (h_p1_heights : Nat) (h_p1_facts_cells : Nat) (h_t_least : Nat) (h_t_greatest : Nat) (h_t_leastBefore : Nat) (h_t_greatestBefore : Nat) (h_t_ridgeOf : Nat) (h_t_olderOf : Nat) (h_t_lowOf : Nat) (h_t_highOf : Nat) (h_t_cutsBetween : Nat) (h_t_soughtFor : Nat) (p1_ridges : Int32) (p1_facts_limit : Int32) (p1_facts_size : Int32) (n_p1_facts_cells : Nat) (p1_facts_cells : Nat → Int32) (t_taken : Int32) (t_soughtSlow : Int32) (t_soughtFast : Int32) (t_lastLeftOut : Int32) (t_ridgeOf : Nat → Int32) (t_olderOf : Nat → Int32) (t_lowOf : Nat → Int32) (t_highOf : Nat → Int32) (p1_numbers : Nat → Int32) (t_least : Nat → Int32) (t_greatest : Nat → Int32) (t_leastBefore : Nat → Int32) (t_greatestBefore : Nat → Int32) (o0 : Int32) (o1 : Int32) (o2 : Nat → Int32) (o3 : Nat → Int32) (o4 : Nat → Int32) (o5 : Nat → Int32) (o6 : Nat → Int32) (o7 : Nat → Int32) (o8 : Nat → Int32) (o9 : Nat → Int32) (hf : f_X0_firstParted p1_ridges p1_facts_size n_p1_facts_cells p1_facts_cells t_ridgeOf t_olderOf t_lowOf t_highOf p1_numbers t_least t_greatest t_leastBefore t_greatestBefore = some (o0, o1, o2, o3, o4, o5, o6, o7, o8, o9)) : CM l yX0_firstParted wqX0_firstParted rmX0_firstParted (kS te) dC dI cI cZ [.ref h_t, .ref h_p1] [(h_p1, .inr (1, fX1 h_p1_surfaces h_p1_cliffs h_p1_boulders h_p1_scratches h_p1_numbers h_p1_facts h_p1_signs h_p1_areas h_p1_heights p1_ridges)), (h_p1_facts, .inr (4, fX4 p1_facts_limit h_p1_facts_cells p1_facts_size)), (h_p1_facts_cells, .inl (cI, n_p1_facts_cells, .inl p1_facts_cells)), (h_t, .inr (0, fX0 h_t_least h_t_greatest h_t_leastBefore h_t_greatestBefore h_t_ridgeOf h_t_olderOf h_t_lowOf h_t_highOf t_taken h_t_cutsBetween h_t_soughtFor t_soughtSlow t_soughtFast t_lastLeftOut)), (h_t_ridgeOf, .inl (cI, 16, .inl t_ridgeOf)), (h_t_olderOf, .inl (cI, 16, .inl t_olderOf)), (h_t_lowOf, .inl (cI, 16, .inl t_lowOf)), (h_t_highOf, .inl (cI, 16, .inl t_highOf)), (h_p1_numbers, .inl (cI, 6, .inl p1_numbers)), (h_t_least, .inl (cI, 8, .inl t_least)), (h_t_greatest, .inl (cI, 8, .inl t_greatest)), (h_t_leastBefore, .inl (cI, 8, .inl t_leastBefore)), (h_t_greatestBefore, .inl (cI, 8, .inl t_greatestBefore))] [(h_p1, .inr (1, fX1 h_p1_surfaces h_p1_cliffs h_p1_boulders h_p1_scratches h_p1_numbers h_p1_facts h_p1_signs h_p1_areas h_p1_heights p1_ridges)), (h_p1_facts, .inr (4, fX4 p1_facts_limit h_p1_facts_cells p1_facts_size)), (h_p1_facts_cells, .inl (cI, n_p1_facts_cells, .inl p1_facts_cells)), (h_t, .inr (0, fX0 h_t_least h_t_greatest h_t_leastBefore h_t_greatestBefore h_t_ridgeOf h_t_olderOf h_t_lowOf h_t_highOf o1 h_t_cutsBetween h_t_soughtFor t_soughtSlow t_soughtFast t_lastLeftOut)), (h_t_ridgeOf, .inl (cI, 16, .inl o2)), (h_t_olderOf, .inl (cI, 16, .inl o3)), (h_t_lowOf, .inl (cI, 16, .inl o4)), (h_t_highOf, .inl (cI, 16, .inl o5)), (h_p1_numbers, .inl (cI, 6, .inl p1_numbers)), (h_t_least, .inl (cI, 8, .inl o6)), (h_t_greatest, .inl (cI, 8, .inl o7)), (h_t_leastBefore, .inl (cI, 8, .inl o8)), (h_t_greatestBefore, .inl (cI, 8, .inl o9))] (some (.int o0)) := by
  refine CM_of (cc := cX0_firstParted) (maxL := 4) (ret := (some .int)) (by decide +kernel) rfl (Nat.le_of_ble_eq_true rfl) ?_
  intro p e s m args below meth c A Q hx hb hr hml hown hts hlocks hA hK hP hD hS hE hQ hAe ls hl
  have hown : s.vm.findClass RX0 = some m.cls := hown
  have hl : lv_has ls 4 [(0, .ref h_t), (1, .ref h_p1)] := hl
  unfold f_X0_firstParted at hf
  refine lv_aload_n hx hb dX0_firstParted_0 rfl (lv_at hl 0 rfl) ?_
  refine lv_aload_n hx hb dX0_firstParted_1 rfl (lv_at hl 1 rfl) ?_
  refine lv_aload_n hx hb dX0_firstParted_2 rfl (lv_at hl 1 rfl) ?_
  refine lv_iconst (v := (0 : Int32)) hx hb dX0_firstParted_3 (by decide) ?_
  obtain ⟨r1, hg2, hf⟩ := bd1_some hf
  refine CM_callS (As := [.ref h_p1, .int (0 : Int32)]) (rest := [.ref h_p1, .ref h_t]) (wc := [(h_p1, .inr (1, fX1 h_p1_surfaces h_p1_cliffs h_p1_boulders h_p1_scratches h_p1_numbers h_p1_facts h_p1_signs h_p1_areas h_p1_heights p1_ridges)), (h_p1_facts, .inr (4, fX4 p1_facts_limit h_p1_facts_cells p1_facts_size)), (h_p1_facts_cells, .inl (cI, n_p1_facts_cells, .inl p1_facts_cells))]) (w1 := [(h_p1, .inr (1, fX1 h_p1_surfaces h_p1_cliffs h_p1_boulders h_p1_scratches h_p1_numbers h_p1_facts h_p1_signs h_p1_areas h_p1_heights p1_ridges)), (h_p1_facts, .inr (4, fX4 p1_facts_limit h_p1_facts_cells p1_facts_size)), (h_p1_facts_cells, .inl (cI, n_p1_facts_cells, .inl p1_facts_cells))]) (wr := [(h_t, .inr (0, fX0 h_t_least h_t_greatest h_t_leastBefore h_t_greatestBefore h_t_ridgeOf h_t_olderOf h_t_lowOf h_t_highOf t_taken h_t_cutsBetween h_t_soughtFor t_soughtSlow t_soughtFast t_lastLeftOut)), (h_t_ridgeOf, .inl (cI, 16, .inl t_ridgeOf)), (h_t_olderOf, .inl (cI, 16, .inl t_olderOf)), (h_t_lowOf, .inl (cI, 16, .inl t_lowOf)), (h_t_highOf, .inl (cI, 16, .inl t_highOf)), (h_p1_numbers, .inl (cI, 6, .inl p1_numbers)), (h_t_least, .inl (cI, 8, .inl t_least)), (h_t_greatest, .inl (cI, 8, .inl t_greatest)), (h_t_leastBefore, .inl (cI, 8, .inl t_leastBefore)), (h_t_greatestBefore, .inl (cI, 8, .inl t_greatestBefore))]) (wo := [(h_p1, .inr (1, fX1 h_p1_surfaces h_p1_cliffs h_p1_boulders h_p1_scratches h_p1_numbers h_p1_facts h_p1_signs h_p1_areas h_p1_heights p1_ridges)), (h_p1_facts, .inr (4, fX4 p1_facts_limit h_p1_facts_cells p1_facts_size)), (h_p1_facts_cells, .inl (cI, n_p1_facts_cells, .inl p1_facts_cells)), (h_t, .inr (0, fX0 h_t_least h_t_greatest h_t_leastBefore h_t_greatestBefore h_t_ridgeOf h_t_olderOf h_t_lowOf h_t_highOf t_taken h_t_cutsBetween h_t_soughtFor t_soughtSlow t_soughtFast t_lastLeftOut)), (h_t_ridgeOf, .inl (cI, 16, .inl t_ridgeOf)), (h_t_olderOf, .inl (cI, 16, .inl t_olderOf)), (h_t_lowOf, .inl (cI, 16, .inl t_lowOf)), (h_t_highOf, .inl (cI, 16, .inl t_highOf)), (h_p1_numbers, .inl (cI, 6, .inl p1_numbers)), (h_t_least, .inl (cI, 8, .inl t_least)), (h_t_greatest, .inl (cI, 8, .inl t_greatest)), (h_t_leastBefore, .inl (cI, 8, .inl t_leastBefore)), (h_t_greatestBefore, .inl (cI, 8, .inl t_greatestBefore))]) (v := (some (.int r1))) ⟨hx, hb, hml, hown, hts⟩ (c_X0_bitsOfScholar l dC dI cI cZ te h_p1 h_p1_surfaces h_p1_cliffs h_p1_boulders h_p1_scratches h_p1_numbers h_p1_facts h_p1_signs h_p1_areas h_p1_heights h_p1_facts_cells p1_ridges p1_facts_limit p1_facts_size n_p1_facts_cells p1_facts_cells (0 : Int32) r1 hg2) (va_cwS 2 hts (gS kw_497 kw_498 kw_88 kw_499) rfl rfl rfl (by decide +kernel) ⟨Nat.le_of_ble_eq_true rfl, Nat.le_of_ble_eq_true rfl⟩) (kS_env te) hK hP hD hS hA hE [0, 1, 2] [3, 4, 5, 6, 7, 8, 9, 10, 11, 12] [10, 11, 12, 0, 1, 2, 3, 4, 5, 6, 7, 8, 9] rfl rfl (by decide) (by decide) (by decide) (by decide) rfl rfl hl.1 rfl (Nat.le_of_ble_eq_true rfl) dX0_firstParted_4 ⟨Nat.zero_le _, Nat.zero_le _⟩ (fun H locs hP hD hS => ?_)
  show W p l e rmX0_firstParted s m args below meth c H locs 0 0 Q (F0 m 7 ls [.int r1, .ref h_p1, .ref h_t])
  obtain ⟨r3, x4, y5, y6, y7, y8, y9, y10, hg11, hf⟩ := bd8_some hf
  refine CM_callV (C := RX0) (As := [.ref h_p1, .int r1]) (rest := []) (wc := [(h_p1, .inr (1, fX1 h_p1_surfaces h_p1_cliffs h_p1_boulders h_p1_scratches h_p1_numbers h_p1_facts h_p1_signs h_p1_areas h_p1_heights p1_ridges)), (h_p1_facts, .inr (4, fX4 p1_facts_limit h_p1_facts_cells p1_facts_size)), (h_t, .inr (0, fX0 h_t_least h_t_greatest h_t_leastBefore h_t_greatestBefore h_t_ridgeOf h_t_olderOf h_t_lowOf h_t_highOf t_taken h_t_cutsBetween h_t_soughtFor t_soughtSlow t_soughtFast t_lastLeftOut)), (h_p1_facts_cells, .inl (cI, n_p1_facts_cells, .inl p1_facts_cells)), (h_t_ridgeOf, .inl (cI, 16, .inl t_ridgeOf)), (h_t_olderOf, .inl (cI, 16, .inl t_olderOf)), (h_t_lowOf, .inl (cI, 16, .inl t_lowOf)), (h_t_highOf, .inl (cI, 16, .inl t_highOf)), (h_p1_numbers, .inl (cI, 6, .inl p1_numbers)), (h_t_least, .inl (cI, 8, .inl t_least)), (h_t_greatest, .inl (cI, 8, .inl t_greatest))]) (w1 := [(h_p1, .inr (1, fX1 h_p1_surfaces h_p1_cliffs h_p1_boulders h_p1_scratches h_p1_numbers h_p1_facts h_p1_signs h_p1_areas h_p1_heights p1_ridges)), (h_p1_facts, .inr (4, fX4 p1_facts_limit h_p1_facts_cells p1_facts_size)), (h_t, .inr (0, fX0 h_t_least h_t_greatest h_t_leastBefore h_t_greatestBefore h_t_ridgeOf h_t_olderOf h_t_lowOf h_t_highOf x4 h_t_cutsBetween h_t_soughtFor t_soughtSlow t_soughtFast t_lastLeftOut)), (h_p1_facts_cells, .inl (cI, n_p1_facts_cells, .inl p1_facts_cells)), (h_t_ridgeOf, .inl (cI, 16, .inl y5)), (h_t_olderOf, .inl (cI, 16, .inl y6)), (h_t_lowOf, .inl (cI, 16, .inl y7)), (h_t_highOf, .inl (cI, 16, .inl y8)), (h_p1_numbers, .inl (cI, 6, .inl p1_numbers)), (h_t_least, .inl (cI, 8, .inl y9)), (h_t_greatest, .inl (cI, 8, .inl y10))]) (wr := [(h_t_leastBefore, .inl (cI, 8, .inl t_leastBefore)), (h_t_greatestBefore, .inl (cI, 8, .inl t_greatestBefore))]) (wo := [(h_p1, .inr (1, fX1 h_p1_surfaces h_p1_cliffs h_p1_boulders h_p1_scratches h_p1_numbers h_p1_facts h_p1_signs h_p1_areas h_p1_heights p1_ridges)), (h_p1_facts, .inr (4, fX4 p1_facts_limit h_p1_facts_cells p1_facts_size)), (h_p1_facts_cells, .inl (cI, n_p1_facts_cells, .inl p1_facts_cells)), (h_t, .inr (0, fX0 h_t_least h_t_greatest h_t_leastBefore h_t_greatestBefore h_t_ridgeOf h_t_olderOf h_t_lowOf h_t_highOf x4 h_t_cutsBetween h_t_soughtFor t_soughtSlow t_soughtFast t_lastLeftOut)), (h_t_ridgeOf, .inl (cI, 16, .inl y5)), (h_t_olderOf, .inl (cI, 16, .inl y6)), (h_t_lowOf, .inl (cI, 16, .inl y7)), (h_t_highOf, .inl (cI, 16, .inl y8)), (h_p1_numbers, .inl (cI, 6, .inl p1_numbers)), (h_t_least, .inl (cI, 8, .inl y9)), (h_t_greatest, .inl (cI, 8, .inl y10)), (h_t_leastBefore, .inl (cI, 8, .inl t_leastBefore)), (h_t_greatestBefore, .inl (cI, 8, .inl t_greatestBefore))]) (v := (some (.int r3))) ⟨hx, hb, hml, hown, hts⟩ (c_X0_joinBy l dC dI cI cZ te h_t h_p1 h_p1_surfaces h_p1_cliffs h_p1_boulders h_p1_scratches h_p1_numbers h_p1_facts h_p1_signs h_p1_areas h_p1_heights h_p1_facts_cells h_t_least h_t_greatest h_t_leastBefore h_t_greatestBefore h_t_ridgeOf h_t_olderOf h_t_lowOf h_t_highOf h_t_cutsBetween h_t_soughtFor p1_ridges p1_facts_limit p1_facts_size t_taken t_soughtSlow t_soughtFast t_lastLeftOut n_p1_facts_cells p1_facts_cells t_ridgeOf t_olderOf t_lowOf t_highOf p1_numbers t_least t_greatest r1 r3 x4 y5 y6 y7 y8 y9 y10 hg11) (cwV 2 hts (gV kw_477 kw_478 kw_479 kw_88 kw_480) rfl rfl rfl (by decide +kernel) ⟨Nat.le_of_ble_eq_true rfl, Nat.le_of_ble_eq_true rfl⟩) (kS_env te) hK hP hD hS hA hE [0, 1, 3, 2, 4, 5, 6, 7, 8, 9, 10] [11, 12] [2, 3, 5, 4, 6, 7, 8, 9, 10, 11, 12, 0, 1] rfl rfl (by decide) (by decide) (by decide) (by decide) rfl 3 0 rfl rfl rfl rfl hl.1 rfl (Nat.le_of_ble_eq_true rfl) dX0_firstParted_7 ⟨Nat.zero_le _, Nat.zero_le _⟩ (fun H locs hP hD hS => ?_)
  show W p l e rmX0_firstParted s m args below meth c H locs 0 0 Q (F0 m 10 ls [.int r3])
  refine lv_if_ne (tgt := 16) hx hb dX0_firstParted_10 (by decide) (fun c12 => ?_) (fun c12 => ?_)
  · replace hf := ifn c12 hf
    refine lv_aload_n hx hb dX0_firstParted_16 rfl (lv_at hl 0 rfl) ?_
    refine va_get (D := (dC, dI)) (ci := 0) (v := .ref h_t_least) (C := RX0) (T := TX0) (N := 14) hx hb hts (in1 tw_X0) hown hK hP 3 rfl rfl 0 (by decide) (hts _ (List.mem_cons_of_mem _ kw_38)) (fun _ h9 => h9) rfl dX0_firstParted_17 ?_
    refine lv_iconst (v := (0 : Int32)) hx hb dX0_firstParted_20 (by decide) ?_
    refine lv_aload_n hx hb dX0_firstParted_21 rfl (lv_at hl 0 rfl) ?_
    refine va_get (D := (dC, dI)) (ci := 0) (v := .ref h_t_leastBefore) (C := RX0) (T := TX0) (N := 14) hx hb hts (in1 tw_X0) hown hK hP 3 rfl rfl 2 (by decide) (hts _ (List.mem_cons_of_mem _ kw_40)) (fun _ h9 => h9) rfl dX0_firstParted_22 ?_
    refine lv_iconst (v := (0 : Int32)) hx hb dX0_firstParted_25 (by decide) ?_
    refine lv_bipush (v := (8 : Int32)) hx hb dX0_firstParted_26 (by decide) ?_
    obtain ⟨g13, hf⟩ := chk_some hf
    obtain ⟨y14, e15, hf⟩ := nm_some hf
    refine va_copyi hx hb (hml.trans hl.1.symm) hown (hts _ (List.mem_cons_of_mem _ kw_500)) (hts _ (List.mem_cons_of_mem _ kw_448)) (hts _ (List.mem_cons_of_mem _ kw_449)) (hts _ (List.mem_cons_of_mem _ kw_450)) hK hP hD hS 9 11 0 0 rfl rfl rfl rfl rfl (gcp_of g13).1 (gcp_of g13).2.1 (gcp_of g13).2.2.1 (gcp_of g13).2.2.2.1 (gcp_of g13).2.2.2.2 (fun _ _ => rfl) (Nat.le_of_ble_eq_true rfl) (Nat.le_of_ble_eq_true rfl) dX0_firstParted_28 (fun H locs hP hD hS => ?_)
    have hP : va_P (dC, dI) vwCl [(h_p1, .inr (1, fX1 h_p1_surfaces h_p1_cliffs h_p1_boulders h_p1_scratches h_p1_numbers h_p1_facts h_p1_signs h_p1_areas h_p1_heights p1_ridges)), (h_p1_facts, .inr (4, fX4 p1_facts_limit h_p1_facts_cells p1_facts_size)), (h_p1_facts_cells, .inl (cI, n_p1_facts_cells, .inl p1_facts_cells)), (h_t, .inr (0, fX0 h_t_least h_t_greatest h_t_leastBefore h_t_greatestBefore h_t_ridgeOf h_t_olderOf h_t_lowOf h_t_highOf x4 h_t_cutsBetween h_t_soughtFor t_soughtSlow t_soughtFast t_lastLeftOut)), (h_t_ridgeOf, .inl (cI, 16, .inl y5)), (h_t_olderOf, .inl (cI, 16, .inl y6)), (h_t_lowOf, .inl (cI, 16, .inl y7)), (h_t_highOf, .inl (cI, 16, .inl y8)), (h_p1_numbers, .inl (cI, 6, .inl p1_numbers)), (h_t_least, .inl (cI, 8, .inl y9)), (h_t_greatest, .inl (cI, 8, .inl y10)), (h_t_leastBefore, .inl (cI, 8, .inl y14)), (h_t_greatestBefore, .inl (cI, 8, .inl t_greatestBefore))] H := by rw [e15]; exact hP
    have hD : va_D A [(h_p1, .inr (1, fX1 h_p1_surfaces h_p1_cliffs h_p1_boulders h_p1_scratches h_p1_numbers h_p1_facts h_p1_signs h_p1_areas h_p1_heights p1_ridges)), (h_p1_facts, .inr (4, fX4 p1_facts_limit h_p1_facts_cells p1_facts_size)), (h_p1_facts_cells, .inl (cI, n_p1_facts_cells, .inl p1_facts_cells)), (h_t, .inr (0, fX0 h_t_least h_t_greatest h_t_leastBefore h_t_greatestBefore h_t_ridgeOf h_t_olderOf h_t_lowOf h_t_highOf x4 h_t_cutsBetween h_t_soughtFor t_soughtSlow t_soughtFast t_lastLeftOut)), (h_t_ridgeOf, .inl (cI, 16, .inl y5)), (h_t_olderOf, .inl (cI, 16, .inl y6)), (h_t_lowOf, .inl (cI, 16, .inl y7)), (h_t_highOf, .inl (cI, 16, .inl y8)), (h_p1_numbers, .inl (cI, 6, .inl p1_numbers)), (h_t_least, .inl (cI, 8, .inl y9)), (h_t_greatest, .inl (cI, 8, .inl y10)), (h_t_leastBefore, .inl (cI, 8, .inl y14)), (h_t_greatestBefore, .inl (cI, 8, .inl t_greatestBefore))] := by rw [e15]; exact hD
    refine lv_aload_n hx hb dX0_firstParted_31 rfl (lv_at hl 0 rfl) ?_
    refine va_get (D := (dC, dI)) (ci := 0) (v := .ref h_t_greatest) (C := RX0) (T := TX0) (N := 14) hx hb hts (in1 tw_X0) hown hK hP 3 rfl rfl 1 (by decide) (hts _ (List.mem_cons_of_mem _ kw_39)) (fun _ h9 => h9) rfl dX0_firstParted_32 ?_
    refine lv_iconst (v := (0 : Int32)) hx hb dX0_firstParted_35 (by decide) ?_
    refine lv_aload_n hx hb dX0_firstParted_36 rfl (lv_at hl 0 rfl) ?_
    refine va_get (D := (dC, dI)) (ci := 0) (v := .ref h_t_greatestBefore) (C := RX0) (T := TX0) (N := 14) hx hb hts (in1 tw_X0) hown hK hP 3 rfl rfl 3 (by decide) (hts _ (List.mem_cons_of_mem _ kw_41)) (fun _ h9 => h9) rfl dX0_firstParted_37 ?_
    refine lv_iconst (v := (0 : Int32)) hx hb dX0_firstParted_40 (by decide) ?_
    refine lv_bipush (v := (8 : Int32)) hx hb dX0_firstParted_41 (by decide) ?_
    obtain ⟨g16, hf⟩ := chk_some hf
    obtain ⟨y17, e18, hf⟩ := nm_some hf
    refine va_copyi hx hb (hml.trans hl.1.symm) hown (hts _ (List.mem_cons_of_mem _ kw_500)) (hts _ (List.mem_cons_of_mem _ kw_448)) (hts _ (List.mem_cons_of_mem _ kw_449)) (hts _ (List.mem_cons_of_mem _ kw_450)) hK hP hD hS 10 12 0 0 rfl rfl rfl rfl rfl (gcp_of g16).1 (gcp_of g16).2.1 (gcp_of g16).2.2.1 (gcp_of g16).2.2.2.1 (gcp_of g16).2.2.2.2 (fun _ _ => rfl) (Nat.le_of_ble_eq_true rfl) (Nat.le_of_ble_eq_true rfl) dX0_firstParted_43 (fun H locs hP hD hS => ?_)
    have hP : va_P (dC, dI) vwCl [(h_p1, .inr (1, fX1 h_p1_surfaces h_p1_cliffs h_p1_boulders h_p1_scratches h_p1_numbers h_p1_facts h_p1_signs h_p1_areas h_p1_heights p1_ridges)), (h_p1_facts, .inr (4, fX4 p1_facts_limit h_p1_facts_cells p1_facts_size)), (h_p1_facts_cells, .inl (cI, n_p1_facts_cells, .inl p1_facts_cells)), (h_t, .inr (0, fX0 h_t_least h_t_greatest h_t_leastBefore h_t_greatestBefore h_t_ridgeOf h_t_olderOf h_t_lowOf h_t_highOf x4 h_t_cutsBetween h_t_soughtFor t_soughtSlow t_soughtFast t_lastLeftOut)), (h_t_ridgeOf, .inl (cI, 16, .inl y5)), (h_t_olderOf, .inl (cI, 16, .inl y6)), (h_t_lowOf, .inl (cI, 16, .inl y7)), (h_t_highOf, .inl (cI, 16, .inl y8)), (h_p1_numbers, .inl (cI, 6, .inl p1_numbers)), (h_t_least, .inl (cI, 8, .inl y9)), (h_t_greatest, .inl (cI, 8, .inl y10)), (h_t_leastBefore, .inl (cI, 8, .inl y14)), (h_t_greatestBefore, .inl (cI, 8, .inl y17))] H := by rw [e18]; exact hP
    have hD : va_D A [(h_p1, .inr (1, fX1 h_p1_surfaces h_p1_cliffs h_p1_boulders h_p1_scratches h_p1_numbers h_p1_facts h_p1_signs h_p1_areas h_p1_heights p1_ridges)), (h_p1_facts, .inr (4, fX4 p1_facts_limit h_p1_facts_cells p1_facts_size)), (h_p1_facts_cells, .inl (cI, n_p1_facts_cells, .inl p1_facts_cells)), (h_t, .inr (0, fX0 h_t_least h_t_greatest h_t_leastBefore h_t_greatestBefore h_t_ridgeOf h_t_olderOf h_t_lowOf h_t_highOf x4 h_t_cutsBetween h_t_soughtFor t_soughtSlow t_soughtFast t_lastLeftOut)), (h_t_ridgeOf, .inl (cI, 16, .inl y5)), (h_t_olderOf, .inl (cI, 16, .inl y6)), (h_t_lowOf, .inl (cI, 16, .inl y7)), (h_t_highOf, .inl (cI, 16, .inl y8)), (h_p1_numbers, .inl (cI, 6, .inl p1_numbers)), (h_t_least, .inl (cI, 8, .inl y9)), (h_t_greatest, .inl (cI, 8, .inl y10)), (h_t_leastBefore, .inl (cI, 8, .inl y14)), (h_t_greatestBefore, .inl (cI, 8, .inl y17))] := by rw [e18]; exact hD
    refine lv_aload_n hx hb dX0_firstParted_46 rfl (lv_at hl 0 rfl) ?_
    refine lv_aload_n hx hb dX0_firstParted_47 rfl (lv_at hl 1 rfl) ?_
    refine lv_aload_n hx hb dX0_firstParted_48 rfl (lv_at hl 1 rfl) ?_
    refine lv_iconst (v := (1 : Int32)) hx hb dX0_firstParted_49 (by decide) ?_
    obtain ⟨r19, hg20, hf⟩ := bd1_some hf
    refine CM_callS (As := [.ref h_p1, .int (1 : Int32)]) (rest := [.ref h_p1, .ref h_t]) (wc := [(h_p1, .inr (1, fX1 h_p1_surfaces h_p1_cliffs h_p1_boulders h_p1_scratches h_p1_numbers h_p1_facts h_p1_signs h_p1_areas h_p1_heights p1_ridges)), (h_p1_facts, .inr (4, fX4 p1_facts_limit h_p1_facts_cells p1_facts_size)), (h_p1_facts_cells, .inl (cI, n_p1_facts_cells, .inl p1_facts_cells))]) (w1 := [(h_p1, .inr (1, fX1 h_p1_surfaces h_p1_cliffs h_p1_boulders h_p1_scratches h_p1_numbers h_p1_facts h_p1_signs h_p1_areas h_p1_heights p1_ridges)), (h_p1_facts, .inr (4, fX4 p1_facts_limit h_p1_facts_cells p1_facts_size)), (h_p1_facts_cells, .inl (cI, n_p1_facts_cells, .inl p1_facts_cells))]) (wr := [(h_t, .inr (0, fX0 h_t_least h_t_greatest h_t_leastBefore h_t_greatestBefore h_t_ridgeOf h_t_olderOf h_t_lowOf h_t_highOf x4 h_t_cutsBetween h_t_soughtFor t_soughtSlow t_soughtFast t_lastLeftOut)), (h_t_ridgeOf, .inl (cI, 16, .inl y5)), (h_t_olderOf, .inl (cI, 16, .inl y6)), (h_t_lowOf, .inl (cI, 16, .inl y7)), (h_t_highOf, .inl (cI, 16, .inl y8)), (h_p1_numbers, .inl (cI, 6, .inl p1_numbers)), (h_t_least, .inl (cI, 8, .inl y9)), (h_t_greatest, .inl (cI, 8, .inl y10)), (h_t_leastBefore, .inl (cI, 8, .inl y14)), (h_t_greatestBefore, .inl (cI, 8, .inl y17))]) (wo := [(h_p1, .inr (1, fX1 h_p1_surfaces h_p1_cliffs h_p1_boulders h_p1_scratches h_p1_numbers h_p1_facts h_p1_signs h_p1_areas h_p1_heights p1_ridges)), (h_p1_facts, .inr (4, fX4 p1_facts_limit h_p1_facts_cells p1_facts_size)), (h_p1_facts_cells, .inl (cI, n_p1_facts_cells, .inl p1_facts_cells)), (h_t, .inr (0, fX0 h_t_least h_t_greatest h_t_leastBefore h_t_greatestBefore h_t_ridgeOf h_t_olderOf h_t_lowOf h_t_highOf x4 h_t_cutsBetween h_t_soughtFor t_soughtSlow t_soughtFast t_lastLeftOut)), (h_t_ridgeOf, .inl (cI, 16, .inl y5)), (h_t_olderOf, .inl (cI, 16, .inl y6)), (h_t_lowOf, .inl (cI, 16, .inl y7)), (h_t_highOf, .inl (cI, 16, .inl y8)), (h_p1_numbers, .inl (cI, 6, .inl p1_numbers)), (h_t_least, .inl (cI, 8, .inl y9)), (h_t_greatest, .inl (cI, 8, .inl y10)), (h_t_leastBefore, .inl (cI, 8, .inl y14)), (h_t_greatestBefore, .inl (cI, 8, .inl y17))]) (v := (some (.int r19))) ⟨hx, hb, hml, hown, hts⟩ (c_X0_bitsOfScholar l dC dI cI cZ te h_p1 h_p1_surfaces h_p1_cliffs h_p1_boulders h_p1_scratches h_p1_numbers h_p1_facts h_p1_signs h_p1_areas h_p1_heights h_p1_facts_cells p1_ridges p1_facts_limit p1_facts_size n_p1_facts_cells p1_facts_cells (1 : Int32) r19 hg20) (va_cwS 2 hts (gS kw_497 kw_498 kw_88 kw_499) rfl rfl rfl (by decide +kernel) ⟨Nat.le_of_ble_eq_true rfl, Nat.le_of_ble_eq_true rfl⟩) (kS_env te) hK hP hD hS hA hE [0, 1, 2] [3, 4, 5, 6, 7, 8, 9, 10, 11, 12] [10, 11, 12, 0, 1, 2, 3, 4, 5, 6, 7, 8, 9] rfl rfl (by decide) (by decide) (by decide) (by decide) rfl rfl hl.1 rfl (Nat.le_of_ble_eq_true rfl) dX0_firstParted_50 ⟨Nat.zero_le _, Nat.zero_le _⟩ (fun H locs hP hD hS => ?_)
    show W p l e rmX0_firstParted s m args below meth c H locs 0 0 Q (F0 m 53 ls [.int r19, .ref h_p1, .ref h_t])
    obtain ⟨r21, x22, y23, y24, y25, y26, y27, y28, hg29, hf⟩ := bd8_some hf
    refine CM_callV (C := RX0) (As := [.ref h_p1, .int r19]) (rest := []) (wc := [(h_p1, .inr (1, fX1 h_p1_surfaces h_p1_cliffs h_p1_boulders h_p1_scratches h_p1_numbers h_p1_facts h_p1_signs h_p1_areas h_p1_heights p1_ridges)), (h_p1_facts, .inr (4, fX4 p1_facts_limit h_p1_facts_cells p1_facts_size)), (h_t, .inr (0, fX0 h_t_least h_t_greatest h_t_leastBefore h_t_greatestBefore h_t_ridgeOf h_t_olderOf h_t_lowOf h_t_highOf x4 h_t_cutsBetween h_t_soughtFor t_soughtSlow t_soughtFast t_lastLeftOut)), (h_p1_facts_cells, .inl (cI, n_p1_facts_cells, .inl p1_facts_cells)), (h_t_ridgeOf, .inl (cI, 16, .inl y5)), (h_t_olderOf, .inl (cI, 16, .inl y6)), (h_t_lowOf, .inl (cI, 16, .inl y7)), (h_t_highOf, .inl (cI, 16, .inl y8)), (h_p1_numbers, .inl (cI, 6, .inl p1_numbers)), (h_t_least, .inl (cI, 8, .inl y9)), (h_t_greatest, .inl (cI, 8, .inl y10))]) (w1 := [(h_p1, .inr (1, fX1 h_p1_surfaces h_p1_cliffs h_p1_boulders h_p1_scratches h_p1_numbers h_p1_facts h_p1_signs h_p1_areas h_p1_heights p1_ridges)), (h_p1_facts, .inr (4, fX4 p1_facts_limit h_p1_facts_cells p1_facts_size)), (h_t, .inr (0, fX0 h_t_least h_t_greatest h_t_leastBefore h_t_greatestBefore h_t_ridgeOf h_t_olderOf h_t_lowOf h_t_highOf x22 h_t_cutsBetween h_t_soughtFor t_soughtSlow t_soughtFast t_lastLeftOut)), (h_p1_facts_cells, .inl (cI, n_p1_facts_cells, .inl p1_facts_cells)), (h_t_ridgeOf, .inl (cI, 16, .inl y23)), (h_t_olderOf, .inl (cI, 16, .inl y24)), (h_t_lowOf, .inl (cI, 16, .inl y25)), (h_t_highOf, .inl (cI, 16, .inl y26)), (h_p1_numbers, .inl (cI, 6, .inl p1_numbers)), (h_t_least, .inl (cI, 8, .inl y27)), (h_t_greatest, .inl (cI, 8, .inl y28))]) (wr := [(h_t_leastBefore, .inl (cI, 8, .inl y14)), (h_t_greatestBefore, .inl (cI, 8, .inl y17))]) (wo := [(h_p1, .inr (1, fX1 h_p1_surfaces h_p1_cliffs h_p1_boulders h_p1_scratches h_p1_numbers h_p1_facts h_p1_signs h_p1_areas h_p1_heights p1_ridges)), (h_p1_facts, .inr (4, fX4 p1_facts_limit h_p1_facts_cells p1_facts_size)), (h_p1_facts_cells, .inl (cI, n_p1_facts_cells, .inl p1_facts_cells)), (h_t, .inr (0, fX0 h_t_least h_t_greatest h_t_leastBefore h_t_greatestBefore h_t_ridgeOf h_t_olderOf h_t_lowOf h_t_highOf x22 h_t_cutsBetween h_t_soughtFor t_soughtSlow t_soughtFast t_lastLeftOut)), (h_t_ridgeOf, .inl (cI, 16, .inl y23)), (h_t_olderOf, .inl (cI, 16, .inl y24)), (h_t_lowOf, .inl (cI, 16, .inl y25)), (h_t_highOf, .inl (cI, 16, .inl y26)), (h_p1_numbers, .inl (cI, 6, .inl p1_numbers)), (h_t_least, .inl (cI, 8, .inl y27)), (h_t_greatest, .inl (cI, 8, .inl y28)), (h_t_leastBefore, .inl (cI, 8, .inl y14)), (h_t_greatestBefore, .inl (cI, 8, .inl y17))]) (v := (some (.int r21))) ⟨hx, hb, hml, hown, hts⟩ (c_X0_joinBy l dC dI cI cZ te h_t h_p1 h_p1_surfaces h_p1_cliffs h_p1_boulders h_p1_scratches h_p1_numbers h_p1_facts h_p1_signs h_p1_areas h_p1_heights h_p1_facts_cells h_t_least h_t_greatest h_t_leastBefore h_t_greatestBefore h_t_ridgeOf h_t_olderOf h_t_lowOf h_t_highOf h_t_cutsBetween h_t_soughtFor p1_ridges p1_facts_limit p1_facts_size x4 t_soughtSlow t_soughtFast t_lastLeftOut n_p1_facts_cells p1_facts_cells y5 y6 y7 y8 p1_numbers y9 y10 r19 r21 x22 y23 y24 y25 y26 y27 y28 hg29) (cwV 2 hts (gV kw_477 kw_478 kw_479 kw_88 kw_480) rfl rfl rfl (by decide +kernel) ⟨Nat.le_of_ble_eq_true rfl, Nat.le_of_ble_eq_true rfl⟩) (kS_env te) hK hP hD hS hA hE [0, 1, 3, 2, 4, 5, 6, 7, 8, 9, 10] [11, 12] [2, 3, 5, 4, 6, 7, 8, 9, 10, 11, 12, 0, 1] rfl rfl (by decide) (by decide) (by decide) (by decide) rfl 3 0 rfl rfl rfl rfl hl.1 rfl (Nat.le_of_ble_eq_true rfl) dX0_firstParted_53 ⟨Nat.zero_le _, Nat.zero_le _⟩ (fun H locs hP hD hS => ?_)
    show W p l e rmX0_firstParted s m args below meth c H locs 0 0 Q (F0 m 56 ls [.int r21])
    refine lv_if_ne (tgt := 62) hx hb dX0_firstParted_56 (by decide) (fun c30 => ?_) (fun c30 => ?_)
    · replace hf := ifn c30 hf
      refine lv_aload_n hx hb dX0_firstParted_62 rfl (lv_at hl 1 rfl) ?_
      refine va_get (D := (dC, dI)) (ci := 1) (v := .int p1_ridges) (C := RX1) (T := TX1) (N := 10) hx hb hts (in1 tw_X1) hown hK hP 0 rfl rfl 9 (by decide) (hts _ (List.mem_cons_of_mem _ kw_501)) (fun _ h9 => h9) rfl dX0_firstParted_63 ?_
      refine lv_bipush (v := (8 : Int32)) hx hb dX0_firstParted_66 (by decide) ?_
      refine va_mmin hx hb (hml.trans hl.1.symm) hown (hts _ (List.mem_cons_of_mem _ kw_411)) (hts _ (List.mem_cons_of_mem _ kw_4)) (hts _ (List.mem_cons_of_mem _ kw_5)) (hts _ (List.mem_cons_of_mem _ kw_6)) (Nat.le_of_ble_eq_true rfl) (Nat.le_of_ble_eq_true rfl) (Nat.zero_le _) (Nat.zero_le _) dX0_firstParted_68 ?_
      obtain ⟨x31, e32, hf⟩ := nm_some hf
      refine lv_tope e32 ?_
      refine lv_istore_n (lv' := [(2, .int x31), (0, .ref h_t), (1, .ref h_p1)]) hx hb dX0_firstParted_71 rfl hl (by decide) rfl (fun ls hl => ?_)
      refine lv_iconst (v := (0 : Int32)) hx hb dX0_firstParted_72 (by decide) ?_
      refine lv_istore_n (lv' := [(3, .int (0 : Int32)), (2, .int x31), (0, .ref h_t), (1, .ref h_p1)]) hx hb dX0_firstParted_73 rfl hl (by decide) rfl (fun ls hl => ?_)
      have L55 : ∀ (fu45 : Nat) (x43 : Int32) (q42 : Nat) (x41 : Int32), f_X0_firstParted_L1 x31 y17 y27 y14 y28 fu45 x43 = some (q42, x41) → (q42 = 0 → ∀ (H : Heap) (locs : List Loc), va_P (dC, dI) vwCl [(h_p1, .inr (1, fX1 h_p1_surfaces h_p1_cliffs h_p1_boulders h_p1_scratches h_p1_numbers h_p1_facts h_p1_signs h_p1_areas h_p1_heights p1_ridges)), (h_p1_facts, .inr (4, fX4 p1_facts_limit h_p1_facts_cells p1_facts_size)), (h_p1_facts_cells, .inl (cI, n_p1_facts_cells, .inl p1_facts_cells)), (h_t, .inr (0, fX0 h_t_least h_t_greatest h_t_leastBefore h_t_greatestBefore h_t_ridgeOf h_t_olderOf h_t_lowOf h_t_highOf x22 h_t_cutsBetween h_t_soughtFor t_soughtSlow t_soughtFast t_lastLeftOut)), (h_t_ridgeOf, .inl (cI, 16, .inl y23)), (h_t_olderOf, .inl (cI, 16, .inl y24)), (h_t_lowOf, .inl (cI, 16, .inl y25)), (h_t_highOf, .inl (cI, 16, .inl y26)), (h_p1_numbers, .inl (cI, 6, .inl p1_numbers)), (h_t_least, .inl (cI, 8, .inl y27)), (h_t_greatest, .inl (cI, 8, .inl y28)), (h_t_leastBefore, .inl (cI, 8, .inl y14)), (h_t_greatestBefore, .inl (cI, 8, .inl y17))] H → va_D A [(h_p1, .inr (1, fX1 h_p1_surfaces h_p1_cliffs h_p1_boulders h_p1_scratches h_p1_numbers h_p1_facts h_p1_signs h_p1_areas h_p1_heights p1_ridges)), (h_p1_facts, .inr (4, fX4 p1_facts_limit h_p1_facts_cells p1_facts_size)), (h_p1_facts_cells, .inl (cI, n_p1_facts_cells, .inl p1_facts_cells)), (h_t, .inr (0, fX0 h_t_least h_t_greatest h_t_leastBefore h_t_greatestBefore h_t_ridgeOf h_t_olderOf h_t_lowOf h_t_highOf x22 h_t_cutsBetween h_t_soughtFor t_soughtSlow t_soughtFast t_lastLeftOut)), (h_t_ridgeOf, .inl (cI, 16, .inl y23)), (h_t_olderOf, .inl (cI, 16, .inl y24)), (h_t_lowOf, .inl (cI, 16, .inl y25)), (h_t_highOf, .inl (cI, 16, .inl y26)), (h_p1_numbers, .inl (cI, 6, .inl p1_numbers)), (h_t_least, .inl (cI, 8, .inl y27)), (h_t_greatest, .inl (cI, 8, .inl y28)), (h_t_leastBefore, .inl (cI, 8, .inl y14)), (h_t_greatestBefore, .inl (cI, 8, .inl y17))] → va_S A s.heap H locs → ∀ ls : Array Slot, lv_has ls 4 [(3, .int x41)] → W p l e rmX0_firstParted s m args below meth c H locs 0 0 Q (F0 m 109 ls [])) → (q42 = 1 → ∀ (H : Heap) (locs : List Loc), va_P (dC, dI) vwCl [(h_p1, .inr (1, fX1 h_p1_surfaces h_p1_cliffs h_p1_boulders h_p1_scratches h_p1_numbers h_p1_facts h_p1_signs h_p1_areas h_p1_heights p1_ridges)), (h_p1_facts, .inr (4, fX4 p1_facts_limit h_p1_facts_cells p1_facts_size)), (h_p1_facts_cells, .inl (cI, n_p1_facts_cells, .inl p1_facts_cells)), (h_t, .inr (0, fX0 h_t_least h_t_greatest h_t_leastBefore h_t_greatestBefore h_t_ridgeOf h_t_olderOf h_t_lowOf h_t_highOf x22 h_t_cutsBetween h_t_soughtFor t_soughtSlow t_soughtFast t_lastLeftOut)), (h_t_ridgeOf, .inl (cI, 16, .inl y23)), (h_t_olderOf, .inl (cI, 16, .inl y24)), (h_t_lowOf, .inl (cI, 16, .inl y25)), (h_t_highOf, .inl (cI, 16, .inl y26)), (h_p1_numbers, .inl (cI, 6, .inl p1_numbers)), (h_t_least, .inl (cI, 8, .inl y27)), (h_t_greatest, .inl (cI, 8, .inl y28)), (h_t_leastBefore, .inl (cI, 8, .inl y14)), (h_t_greatestBefore, .inl (cI, 8, .inl y17))] H → va_D A [(h_p1, .inr (1, fX1 h_p1_surfaces h_p1_cliffs h_p1_boulders h_p1_scratches h_p1_numbers h_p1_facts h_p1_signs h_p1_areas h_p1_heights p1_ridges)), (h_p1_facts, .inr (4, fX4 p1_facts_limit h_p1_facts_cells p1_facts_size)), (h_p1_facts_cells, .inl (cI, n_p1_facts_cells, .inl p1_facts_cells)), (h_t, .inr (0, fX0 h_t_least h_t_greatest h_t_leastBefore h_t_greatestBefore h_t_ridgeOf h_t_olderOf h_t_lowOf h_t_highOf x22 h_t_cutsBetween h_t_soughtFor t_soughtSlow t_soughtFast t_lastLeftOut)), (h_t_ridgeOf, .inl (cI, 16, .inl y23)), (h_t_olderOf, .inl (cI, 16, .inl y24)), (h_t_lowOf, .inl (cI, 16, .inl y25)), (h_t_highOf, .inl (cI, 16, .inl y26)), (h_p1_numbers, .inl (cI, 6, .inl p1_numbers)), (h_t_least, .inl (cI, 8, .inl y27)), (h_t_greatest, .inl (cI, 8, .inl y28)), (h_t_leastBefore, .inl (cI, 8, .inl y14)), (h_t_greatestBefore, .inl (cI, 8, .inl y17))] → va_S A s.heap H locs → ∀ ls : Array Slot, lv_has ls 4 [] → W p l e rmX0_firstParted s m args below meth c H locs 0 0 Q (F0 m 117 ls [])) → ∀ (H : Heap) (locs : List Loc), va_P (dC, dI) vwCl [(h_p1, .inr (1, fX1 h_p1_surfaces h_p1_cliffs h_p1_boulders h_p1_scratches h_p1_numbers h_p1_facts h_p1_signs h_p1_areas h_p1_heights p1_ridges)), (h_p1_facts, .inr (4, fX4 p1_facts_limit h_p1_facts_cells p1_facts_size)), (h_p1_facts_cells, .inl (cI, n_p1_facts_cells, .inl p1_facts_cells)), (h_t, .inr (0, fX0 h_t_least h_t_greatest h_t_leastBefore h_t_greatestBefore h_t_ridgeOf h_t_olderOf h_t_lowOf h_t_highOf x22 h_t_cutsBetween h_t_soughtFor t_soughtSlow t_soughtFast t_lastLeftOut)), (h_t_ridgeOf, .inl (cI, 16, .inl y23)), (h_t_olderOf, .inl (cI, 16, .inl y24)), (h_t_lowOf, .inl (cI, 16, .inl y25)), (h_t_highOf, .inl (cI, 16, .inl y26)), (h_p1_numbers, .inl (cI, 6, .inl p1_numbers)), (h_t_least, .inl (cI, 8, .inl y27)), (h_t_greatest, .inl (cI, 8, .inl y28)), (h_t_leastBefore, .inl (cI, 8, .inl y14)), (h_t_greatestBefore, .inl (cI, 8, .inl y17))] H → va_D A [(h_p1, .inr (1, fX1 h_p1_surfaces h_p1_cliffs h_p1_boulders h_p1_scratches h_p1_numbers h_p1_facts h_p1_signs h_p1_areas h_p1_heights p1_ridges)), (h_p1_facts, .inr (4, fX4 p1_facts_limit h_p1_facts_cells p1_facts_size)), (h_p1_facts_cells, .inl (cI, n_p1_facts_cells, .inl p1_facts_cells)), (h_t, .inr (0, fX0 h_t_least h_t_greatest h_t_leastBefore h_t_greatestBefore h_t_ridgeOf h_t_olderOf h_t_lowOf h_t_highOf x22 h_t_cutsBetween h_t_soughtFor t_soughtSlow t_soughtFast t_lastLeftOut)), (h_t_ridgeOf, .inl (cI, 16, .inl y23)), (h_t_olderOf, .inl (cI, 16, .inl y24)), (h_t_lowOf, .inl (cI, 16, .inl y25)), (h_t_highOf, .inl (cI, 16, .inl y26)), (h_p1_numbers, .inl (cI, 6, .inl p1_numbers)), (h_t_least, .inl (cI, 8, .inl y27)), (h_t_greatest, .inl (cI, 8, .inl y28)), (h_t_leastBefore, .inl (cI, 8, .inl y14)), (h_t_greatestBefore, .inl (cI, 8, .inl y17))] → va_S A s.heap H locs → ∀ ls : Array Slot, lv_has ls 4 [(0, .ref h_t), (2, .int x31), (3, .int x43)] → W p l e rmX0_firstParted s m args below meth c H locs 0 0 Q (F0 m 74 ls []) := by
        intro fu45
        induction fu45 with
        | zero =>
          intro x43 q42 x41 hf
          unfold f_X0_firstParted_L1 at hf
          exact none_ne hf
        | succ fu45 ih44 =>
          intro x43 q42 x41 hf hX46 hX47 H locs hP hD hS ls hl
          unfold f_X0_firstParted_L1 at hf
          refine lv_iload_n hx hb dX0_firstParted_74 rfl (lv_at hl 2 rfl) ?_
          refine lv_iload_n hx hb dX0_firstParted_75 rfl (lv_at hl 1 rfl) ?_
          refine lv_icmp_ge (tgt := 117) hx hb dX0_firstParted_76 (by decide) (fun c48 => ?_) (fun c48 => ?_)
          · replace hf := ifp c48 hf
            obtain ⟨rfl, rfl⟩ := inj2 hf
            exact hX47 rfl _ _ hP hD hS _ (lv_sub hl [] rfl)
          · replace hf := ifn c48 hf
            refine lv_aload_n hx hb dX0_firstParted_79 rfl (lv_at hl 0 rfl) ?_
            refine va_get (D := (dC, dI)) (ci := 0) (v := .ref h_t_greatestBefore) (C := RX0) (T := TX0) (N := 14) hx hb hts (in1 tw_X0) hown hK hP 3 rfl rfl 3 (by decide) (hts _ (List.mem_cons_of_mem _ kw_41)) (fun _ h9 => h9) rfl dX0_firstParted_80 ?_
            refine lv_iload_n hx hb dX0_firstParted_83 rfl (lv_at hl 2 rfl) ?_
            obtain ⟨g49, hf⟩ := chk_some hf
            refine va_iald hx hb hK hP 12 0 rfl rfl (gin_in g49) dX0_firstParted_84 ?_
            refine lv_aload_n hx hb dX0_firstParted_85 rfl (lv_at hl 0 rfl) ?_
            refine va_get (D := (dC, dI)) (ci := 0) (v := .ref h_t_least) (C := RX0) (T := TX0) (N := 14) hx hb hts (in1 tw_X0) hown hK hP 3 rfl rfl 0 (by decide) (hts _ (List.mem_cons_of_mem _ kw_38)) (fun _ h9 => h9) rfl dX0_firstParted_86 ?_
            refine lv_iload_n hx hb dX0_firstParted_89 rfl (lv_at hl 2 rfl) ?_
            obtain ⟨g50, hf⟩ := chk_some hf
            refine va_iald hx hb hK hP 9 0 rfl rfl (gin_in g50) dX0_firstParted_90 ?_
            refine lv_icmp_lt (tgt := 109) hx hb dX0_firstParted_91 (by decide) (fun c51 => ?_) (fun c51 => ?_)
            · replace hf := ifp c51 hf
              obtain ⟨rfl, rfl⟩ := inj2 hf
              exact hX46 rfl _ _ hP hD hS _ (lv_sub hl [2] rfl)
            · replace hf := ifn c51 hf
              refine lv_aload_n hx hb dX0_firstParted_94 rfl (lv_at hl 0 rfl) ?_
              refine va_get (D := (dC, dI)) (ci := 0) (v := .ref h_t_greatest) (C := RX0) (T := TX0) (N := 14) hx hb hts (in1 tw_X0) hown hK hP 3 rfl rfl 1 (by decide) (hts _ (List.mem_cons_of_mem _ kw_39)) (fun _ h9 => h9) rfl dX0_firstParted_95 ?_
              refine lv_iload_n hx hb dX0_firstParted_98 rfl (lv_at hl 2 rfl) ?_
              obtain ⟨g52, hf⟩ := chk_some hf
              refine va_iald hx hb hK hP 10 0 rfl rfl (gin_in g52) dX0_firstParted_99 ?_
              refine lv_aload_n hx hb dX0_firstParted_100 rfl (lv_at hl 0 rfl) ?_
              refine va_get (D := (dC, dI)) (ci := 0) (v := .ref h_t_leastBefore) (C := RX0) (T := TX0) (N := 14) hx hb hts (in1 tw_X0) hown hK hP 3 rfl rfl 2 (by decide) (hts _ (List.mem_cons_of_mem _ kw_40)) (fun _ h9 => h9) rfl dX0_firstParted_101 ?_
              refine lv_iload_n hx hb dX0_firstParted_104 rfl (lv_at hl 2 rfl) ?_
              obtain ⟨g53, hf⟩ := chk_some hf
              refine va_iald hx hb hK hP 11 0 rfl rfl (gin_in g53) dX0_firstParted_105 ?_
              refine lv_icmp_ge (tgt := 111) hx hb dX0_firstParted_106 (by decide) (fun c54 => ?_) (fun c54 => ?_)
              · replace hf := ifp c54 hf
                refine lv_iinc (v := (x43 + (1 : Int32))) (lv' := [(3, .int (x43 + (1 : Int32))), (0, .ref h_t), (2, .int x31)]) hx hb dX0_firstParted_111 hl (k := 2) rfl rfl (by decide) rfl (fun ls hl => ?_)
                refine lv_goto (tgt := 74) hx hb dX0_firstParted_114 (by decide) ?_
                exact ih44 _ _ _ hf hX46 hX47 _ _ hP hD hS _ (lv_sub hl [1, 2, 0] rfl)
              · replace hf := ifn c54 hf
                obtain ⟨rfl, rfl⟩ := inj2 hf
                exact hX46 rfl _ _ hP hD hS _ (lv_sub hl [2] rfl)
      obtain ⟨q42, x41, hg, hf⟩ := bd2_some hf
      refine L55 FU _ _ _ hg ?_ ?_ _ _ hP hD hS _ (lv_sub hl [2, 1, 0] rfl)
      · intro hq
        subst hq
        replace hf := ifp rfl hf
        intro H locs hP hD hS ls hl
        refine lv_iload_n hx hb dX0_firstParted_109 rfl (lv_at hl 0 rfl) ?_
        obtain ⟨rfl, rfl, rfl, rfl, rfl, rfl, rfl, rfl, rfl, rfl⟩ := inj10 hf
        subst hQ
        exact CM_iret hx hb hr rfl hlocks hAe hP hD hS dX0_firstParted_110
      · intro hq
        subst hq
        replace hf := ifn (by decide) hf
        intro H locs hP hD hS ls hl
        refine lv_iconst (v := (-1 : Int32)) hx hb dX0_firstParted_117 (by decide) ?_
        obtain ⟨rfl, rfl, rfl, rfl, rfl, rfl, rfl, rfl, rfl, rfl⟩ := inj10 hf
        subst hQ
        exact CM_iret hx hb hr rfl hlocks hAe hP hD hS dX0_firstParted_118
    · replace hf := ifp c30 hf
      refine lv_bipush (v := (-5 : Int32)) hx hb dX0_firstParted_59 (by decide) ?_
      obtain ⟨rfl, rfl, rfl, rfl, rfl, rfl, rfl, rfl, rfl, rfl⟩ := inj10 hf
      subst hQ
      exact CM_iret hx hb hr rfl hlocks hAe hP hD hS dX0_firstParted_61
  · replace hf := ifp c12 hf
    refine lv_bipush (v := (-5 : Int32)) hx hb dX0_firstParted_13 (by decide) ?_
    obtain ⟨rfl, rfl, rfl, rfl, rfl, rfl, rfl, rfl, rfl, rfl⟩ := inj10 hf
    subst hQ
    exact CM_iret hx hb hr rfl hlocks hAe hP hD hS dX0_firstParted_15
def rmX1_mayPut : Room := { frames := 0, cells := 0, slots := 0, locals := 0 }
abbrev wqX1_mayPut : List Cond := Cond.code yX1_mayPut cX1_mayPut 3 (some .boolean) :: tG
set_option maxHeartbeats 4000000 in
set_option maxRecDepth 100000 in
theorem c_X1_mayPut (l : Launch) (dC : Nat → ClassId) (dI : Nat → Nat → Nat) (cI cZ : ClassId) (te : Nat → Nat) (h_t : Nat) (h_t_surfaces : Nat) (h_t_cliffs : Nat) (h_t_boulders : Nat) (h_t_scratches : Nat) (h_t_numbers : Nat) (h_t_facts : Nat) (h_t_signs : Nat) (h_t_areas : Nat) (h_t_heights : Nat) (t_ridges : Int32) (t_numbers : Nat → Int32) (p1 : Int32) (p2 : Int32) (o0 : Int32) (hf : f_X1_mayPut t_numbers p1 p2 = some o0) : CM l yX1_mayPut wqX1_mayPut rmX1_mayPut (kS te) dC dI cI cZ [.ref h_t, .int p1, .int p2] [(h_t, .inr (1, fX1 h_t_surfaces h_t_cliffs h_t_boulders h_t_scratches h_t_numbers h_t_facts h_t_signs h_t_areas h_t_heights t_ridges)), (h_t_numbers, .inl (cI, 6, .inl t_numbers))] [(h_t, .inr (1, fX1 h_t_surfaces h_t_cliffs h_t_boulders h_t_scratches h_t_numbers h_t_facts h_t_signs h_t_areas h_t_heights t_ridges)), (h_t_numbers, .inl (cI, 6, .inl t_numbers))] (some (.int o0)) := by
  refine CM_of (cc := cX1_mayPut) (maxL := 3) (ret := (some .boolean)) (by decide +kernel) rfl (Nat.le_of_ble_eq_true rfl) ?_
  intro p e s m args below meth c A Q hx hb hr hml hown hts hlocks hA hK hP hD hS hE hQ hAe ls hl
  have hown : s.vm.findClass RX1 = some m.cls := hown
  have hl : lv_has ls 3 [(0, .ref h_t), (1, .int p1), (2, .int p2)] := hl
  unfold f_X1_mayPut at hf
  refine lv_iload_n hx hb dX1_mayPut_0 rfl (lv_at hl 1 rfl) ?_
  refine lv_if_lt (tgt := 31) hx hb dX1_mayPut_1 (by decide) (fun c1 => ?_) (fun c1 => ?_)
  · replace hf := ifp c1 hf
    refine lv_iconst (v := (0 : Int32)) hx hb dX1_mayPut_31 (by decide) ?_
    obtain rfl := inj1 hf
    subst hQ
    exact CM_iret hx hb hr rfl hlocks hAe hP hD hS dX1_mayPut_32
  · replace hf := ifn c1 hf
    refine lv_iload_n hx hb dX1_mayPut_4 rfl (lv_at hl 1 rfl) ?_
    refine lv_aload_n hx hb dX1_mayPut_5 rfl (lv_at hl 0 rfl) ?_
    refine va_get (D := (dC, dI)) (ci := 1) (v := .ref h_t_numbers) (C := RX1) (T := TX1) (N := 10) hx hb hts (in1 tw_X1) hown hK hP 0 rfl rfl 4 (by decide) (hts _ (List.mem_cons_of_mem _ kw_26)) (fun _ h9 => h9) rfl dX1_mayPut_6 ?_
    refine va_alen hx hb hK hP 1 0 rfl rfl (v := (6 : Int32)) (show Int32.ofNat 6 = (6 : Int32) from by decide) dX1_mayPut_9 ?_
    refine lv_icmp_ge (tgt := 31) hx hb dX1_mayPut_10 (by decide) (fun c2 => ?_) (fun c2 => ?_)
    · replace hf := ifp c2 hf
      refine lv_iconst (v := (0 : Int32)) hx hb dX1_mayPut_31 (by decide) ?_
      obtain rfl := inj1 hf
      subst hQ
      exact CM_iret hx hb hr rfl hlocks hAe hP hD hS dX1_mayPut_32
    · replace hf := ifn c2 hf
      refine lv_iload_n hx hb dX1_mayPut_13 rfl (lv_at hl 2 rfl) ?_
      refine va_gets hx hb (C := "StoneRiver$Found") (n := "LEAST_NUMBERS") (d := "[I") (kS_z2 hE) hS hown (hts _ (List.mem_cons_of_mem _ kw_502)) (fun _ h9 => h9) dX1_mayPut_14 ?_
      refine lv_iload_n hx hb dX1_mayPut_17 rfl (lv_at hl 1 rfl) ?_
      obtain ⟨g3, hf⟩ := chk_some hf
      refine va_ti hx hb (kS_t2 hE) hS (gin_in g3) (v := .int (tb2 p1.toNatClampNeg)) rfl dX1_mayPut_18 ?_
      refine lv_icmp_lt (tgt := 31) hx hb dX1_mayPut_19 (by decide) (fun c4 => ?_) (fun c4 => ?_)
      · replace hf := ifp c4 hf
        refine lv_iconst (v := (0 : Int32)) hx hb dX1_mayPut_31 (by decide) ?_
        obtain rfl := inj1 hf
        subst hQ
        exact CM_iret hx hb hr rfl hlocks hAe hP hD hS dX1_mayPut_32
      · replace hf := ifn c4 hf
        refine lv_iload_n hx hb dX1_mayPut_22 rfl (lv_at hl 2 rfl) ?_
        refine va_gets hx hb (C := "StoneRiver$Found") (n := "MOST_NUMBERS") (d := "[I") (kS_z3 hE) hS hown (hts _ (List.mem_cons_of_mem _ kw_503)) (fun _ h9 => h9) dX1_mayPut_23 ?_
        refine lv_iload_n hx hb dX1_mayPut_26 rfl (lv_at hl 1 rfl) ?_
        obtain ⟨g5, hf⟩ := chk_some hf
        refine va_ti hx hb (kS_t3 hE) hS (gin_in g5) (v := .int (tb3 p1.toNatClampNeg)) rfl dX1_mayPut_27 ?_
        refine lv_icmp_le (tgt := 33) hx hb dX1_mayPut_28 (by decide) (fun c6 => ?_) (fun c6 => ?_)
        · replace hf := ifp c6 hf
          refine lv_iload_n hx hb dX1_mayPut_33 rfl (lv_at hl 1 rfl) ?_
          refine lv_iconst (v := (4 : Int32)) hx hb dX1_mayPut_34 (by decide) ?_
          refine lv_icmp_ne (tgt := 48) hx hb dX1_mayPut_35 (by decide) (fun c7 => ?_) (fun c7 => ?_)
          · replace hf := ifn c7 hf
            refine lv_iload_n hx hb dX1_mayPut_48 rfl (lv_at hl 1 rfl) ?_
            refine lv_iconst (v := (5 : Int32)) hx hb dX1_mayPut_49 (by decide) ?_
            refine lv_icmp_ne (tgt := 63) hx hb dX1_mayPut_50 (by decide) (fun c8 => ?_) (fun c8 => ?_)
            · replace hf := ifn c8 hf
              refine lv_iconst (v := (1 : Int32)) hx hb dX1_mayPut_63 (by decide) ?_
              refine lv_goto (tgt := 68) hx hb dX1_mayPut_64 (by decide) ?_
              obtain rfl := inj1 hf
              subst hQ
              exact CM_iret hx hb hr rfl hlocks hAe hP hD hS dX1_mayPut_68
            · replace hf := ifp c8 hf
              refine lv_iload_n hx hb dX1_mayPut_53 rfl (lv_at hl 2 rfl) ?_
              refine lv_aload_n hx hb dX1_mayPut_54 rfl (lv_at hl 0 rfl) ?_
              refine va_get (D := (dC, dI)) (ci := 1) (v := .ref h_t_numbers) (C := RX1) (T := TX1) (N := 10) hx hb hts (in1 tw_X1) hown hK hP 0 rfl rfl 4 (by decide) (hts _ (List.mem_cons_of_mem _ kw_26)) (fun _ h9 => h9) rfl dX1_mayPut_55 ?_
              refine lv_iconst (v := (4 : Int32)) hx hb dX1_mayPut_58 (by decide) ?_
              obtain ⟨g9, hf⟩ := chk_some hf
              refine va_iald hx hb hK hP 1 0 rfl rfl (gin_in g9) dX1_mayPut_59 ?_
              refine lv_icmp_lt (tgt := 67) hx hb dX1_mayPut_60 (by decide) (fun c10 => ?_) (fun c10 => ?_)
              · replace hf := ifp c10 hf
                refine lv_iconst (v := (0 : Int32)) hx hb dX1_mayPut_67 (by decide) ?_
                obtain rfl := inj1 hf
                subst hQ
                exact CM_iret hx hb hr rfl hlocks hAe hP hD hS dX1_mayPut_68
              · replace hf := ifn c10 hf
                refine lv_iconst (v := (1 : Int32)) hx hb dX1_mayPut_63 (by decide) ?_
                refine lv_goto (tgt := 68) hx hb dX1_mayPut_64 (by decide) ?_
                obtain rfl := inj1 hf
                subst hQ
                exact CM_iret hx hb hr rfl hlocks hAe hP hD hS dX1_mayPut_68
          · replace hf := ifp c7 hf
            refine lv_iload_n hx hb dX1_mayPut_38 rfl (lv_at hl 2 rfl) ?_
            refine lv_aload_n hx hb dX1_mayPut_39 rfl (lv_at hl 0 rfl) ?_
            refine va_get (D := (dC, dI)) (ci := 1) (v := .ref h_t_numbers) (C := RX1) (T := TX1) (N := 10) hx hb hts (in1 tw_X1) hown hK hP 0 rfl rfl 4 (by decide) (hts _ (List.mem_cons_of_mem _ kw_26)) (fun _ h9 => h9) rfl dX1_mayPut_40 ?_
            refine lv_iconst (v := (5 : Int32)) hx hb dX1_mayPut_43 (by decide) ?_
            obtain ⟨g11, hf⟩ := chk_some hf
            refine va_iald hx hb hK hP 1 0 rfl rfl (gin_in g11) dX1_mayPut_44 ?_
            refine lv_icmp_gt (tgt := 67) hx hb dX1_mayPut_45 (by decide) (fun c12 => ?_) (fun c12 => ?_)
            · replace hf := ifp c12 hf
              refine lv_iconst (v := (0 : Int32)) hx hb dX1_mayPut_67 (by decide) ?_
              obtain rfl := inj1 hf
              subst hQ
              exact CM_iret hx hb hr rfl hlocks hAe hP hD hS dX1_mayPut_68
            · replace hf := ifn c12 hf
              refine lv_iload_n hx hb dX1_mayPut_48 rfl (lv_at hl 1 rfl) ?_
              refine lv_iconst (v := (5 : Int32)) hx hb dX1_mayPut_49 (by decide) ?_
              refine lv_icmp_ne (tgt := 63) hx hb dX1_mayPut_50 (by decide) (fun c13 => ?_) (fun c13 => ?_)
              · replace hf := ifn c13 hf
                refine lv_iconst (v := (1 : Int32)) hx hb dX1_mayPut_63 (by decide) ?_
                refine lv_goto (tgt := 68) hx hb dX1_mayPut_64 (by decide) ?_
                obtain rfl := inj1 hf
                subst hQ
                exact CM_iret hx hb hr rfl hlocks hAe hP hD hS dX1_mayPut_68
              · replace hf := ifp c13 hf
                refine lv_iload_n hx hb dX1_mayPut_53 rfl (lv_at hl 2 rfl) ?_
                refine lv_aload_n hx hb dX1_mayPut_54 rfl (lv_at hl 0 rfl) ?_
                refine va_get (D := (dC, dI)) (ci := 1) (v := .ref h_t_numbers) (C := RX1) (T := TX1) (N := 10) hx hb hts (in1 tw_X1) hown hK hP 0 rfl rfl 4 (by decide) (hts _ (List.mem_cons_of_mem _ kw_26)) (fun _ h9 => h9) rfl dX1_mayPut_55 ?_
                refine lv_iconst (v := (4 : Int32)) hx hb dX1_mayPut_58 (by decide) ?_
                obtain ⟨g14, hf⟩ := chk_some hf
                refine va_iald hx hb hK hP 1 0 rfl rfl (gin_in g14) dX1_mayPut_59 ?_
                refine lv_icmp_lt (tgt := 67) hx hb dX1_mayPut_60 (by decide) (fun c15 => ?_) (fun c15 => ?_)
                · replace hf := ifp c15 hf
                  refine lv_iconst (v := (0 : Int32)) hx hb dX1_mayPut_67 (by decide) ?_
                  obtain rfl := inj1 hf
                  subst hQ
                  exact CM_iret hx hb hr rfl hlocks hAe hP hD hS dX1_mayPut_68
                · replace hf := ifn c15 hf
                  refine lv_iconst (v := (1 : Int32)) hx hb dX1_mayPut_63 (by decide) ?_
                  refine lv_goto (tgt := 68) hx hb dX1_mayPut_64 (by decide) ?_
                  obtain rfl := inj1 hf
                  subst hQ
                  exact CM_iret hx hb hr rfl hlocks hAe hP hD hS dX1_mayPut_68
        · replace hf := ifn c6 hf
          refine lv_iconst (v := (0 : Int32)) hx hb dX1_mayPut_31 (by decide) ?_
          obtain rfl := inj1 hf
          subst hQ
          exact CM_iret hx hb hr rfl hlocks hAe hP hD hS dX1_mayPut_32
