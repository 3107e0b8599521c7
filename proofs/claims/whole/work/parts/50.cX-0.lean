def rmX4_size : Room := { frames := 0, cells := 0, slots := 0, locals := 0 }
abbrev wqX4_size : List Cond := Cond.code yX4_size cX4_size 1 (some .int) :: tG
set_option maxHeartbeats 4000000 in
set_option maxRecDepth 100000 in
theorem c_X4_size (l : Launch) (dC : Nat → ClassId) (dI : Nat → Nat → Nat) (cI cZ : ClassId) (te : Nat → Nat) (h_t : Nat) (h_t_cells : Nat) (t_limit : Int32) (t_size : Int32) (o0 : Int32) (hf : f_X4_size t_size = some o0) : CM l yX4_size wqX4_size rmX4_size (kS te) dC dI cI cZ [.ref h_t] [(h_t, .inr (4, fX4 t_limit h_t_cells t_size))] [(h_t, .inr (4, fX4 t_limit h_t_cells t_size))] (some (.int o0)) := by
  refine CM_of (cc := cX4_size) (maxL := 1) (ret := (some .int)) (by decide +kernel) rfl (Nat.le_of_ble_eq_true rfl) ?_
  intro p e s m args below meth c A Q hx hb hr hml hown hts hlocks hA hK hP hD hS hE hQ hAe ls hl
  have hown : s.vm.findClass RX4 = some m.cls := hown
  have hl : lv_has ls 1 [(0, .ref h_t)] := hl
  unfold f_X4_size at hf
  refine lv_aload_n hx hb dX4_size_0 rfl (lv_at hl 0 rfl) ?_
  refine va_get (D := (dC, dI)) (ci := 4) (v := .int t_size) (C := RX4) (T := TX4) (N := 3) hx hb hts (in1 tw_X4) hown hK hP 0 rfl rfl 2 (by decide) (hts _ (List.mem_cons_of_mem _ kw_401)) (fun _ h9 => h9) rfl dX4_size_1 ?_
  obtain rfl := inj1 hf
  subst hQ
  exact CM_iret hx hb hr rfl hlocks hAe hP hD hS dX4_size_4
def rmX0_bitsOfAll : Room := { frames := 1, cells := 0, slots := 0, locals := 20 }
abbrev wqX0_bitsOfAll : List Cond := Cond.code yX0_bitsOfAll cX0_bitsOfAll 1 (some .int) :: tG
set_option maxHeartbeats 4000000 in
set_option maxRecDepth 100000 in
theorem c_X0_bitsOfAll (l : Launch) (dC : Nat → ClassId) (dI : Nat → Nat → Nat) (cI cZ : ClassId) (te : Nat → Nat) (h_p1 : Nat) (h_p1_surfaces : Nat) (h_p1_cliffs : Nat) (h_p1_boulders : Nat) (h_p1_scratches : Nat) (h_p1_numbers : Nat) (h_p1_facts : Nat) (h_p1_signs : Nat) (h_p1_areas : Nat) (h_p1_heights : Nat) (h_p1_facts_cells : Nat) (p1_ridges : Int32) (p1_facts_limit : Int32) (p1_facts_size : Int32) (o0 : Int32) (hf : f_X0_bitsOfAll p1_facts_size = some o0) : CM l yX0_bitsOfAll wqX0_bitsOfAll rmX0_bitsOfAll (kS te) dC dI cI cZ [.ref h_p1] [(h_p1, .inr (1, fX1 h_p1_surfaces h_p1_cliffs h_p1_boulders h_p1_scratches h_p1_numbers h_p1_facts h_p1_signs h_p1_areas h_p1_heights p1_ridges)), (h_p1_facts, .inr (4, fX4 p1_facts_limit h_p1_facts_cells p1_facts_size))] [(h_p1, .inr (1, fX1 h_p1_surfaces h_p1_cliffs h_p1_boulders h_p1_scratches h_p1_numbers h_p1_facts h_p1_signs h_p1_areas h_p1_heights p1_ridges)), (h_p1_facts, .inr (4, fX4 p1_facts_limit h_p1_facts_cells p1_facts_size))] (some (.int o0)) := by
  refine CM_of (cc := cX0_bitsOfAll) (maxL := 1) (ret := (some .int)) (by decide +kernel) rfl (Nat.le_of_ble_eq_true rfl) ?_
  intro p e s m args below meth c A Q hx hb hr hml hown hts hlocks hA hK hP hD hS hE hQ hAe ls hl
  have hown : s.vm.findClass RX0 = some m.cls := hown
  have hl : lv_has ls 1 [(0, .ref h_p1)] := hl
  unfold f_X0_bitsOfAll at hf
  refine lv_iconst (v := (1 : Int32)) hx hb dX0_bitsOfAll_0 (by decide) ?_
  refine lv_aload_n hx hb dX0_bitsOfAll_1 rfl (lv_at hl 0 rfl) ?_
  refine va_get (D := (dC, dI)) (ci := 1) (v := .ref h_p1_facts) (C := RX1) (T := TX1) (N := 10) hx hb hts (in1 tw_X1) hown hK hP 0 rfl rfl 5 (by decide) (hts _ (List.mem_cons_of_mem _ kw_402)) (fun _ h9 => h9) rfl dX0_bitsOfAll_2 ?_
  obtain ⟨r1, hg2, hf⟩ := bd1_some hf
  refine CM_callV (C := RX4) (As := []) (rest := [.int (1 : Int32)]) (wc := [(h_p1_facts, .inr (4, fX4 p1_facts_limit h_p1_facts_cells p1_facts_size))]) (w1 := [(h_p1_facts, .inr (4, fX4 p1_facts_limit h_p1_facts_cells p1_facts_size))]) (wr := [(h_p1, .inr (1, fX1 h_p1_surfaces h_p1_cliffs h_p1_boulders h_p1_scratches h_p1_numbers h_p1_facts h_p1_signs h_p1_areas h_p1_heights p1_ridges))]) (wo := [(h_p1, .inr (1, fX1 h_p1_surfaces h_p1_cliffs h_p1_boulders h_p1_scratches h_p1_numbers h_p1_facts h_p1_signs h_p1_areas h_p1_heights p1_ridges)), (h_p1_facts, .inr (4, fX4 p1_facts_limit h_p1_facts_cells p1_facts_size))]) (v := (some (.int r1))) ⟨hx, hb, hml, hown, hts⟩ (c_X4_size l dC dI cI cZ te h_p1_facts h_p1_facts_cells p1_facts_limit p1_facts_size r1 hg2) (cwV 0 hts (gV kw_403 kw_404 kw_405 kw_19 kw_406) rfl rfl rfl (by decide +kernel) ⟨Nat.le_of_ble_eq_true rfl, Nat.le_of_ble_eq_true rfl⟩) (kS_env te) hK hP hD hS hA hE [1] [0] [0, 1] rfl rfl (by decide) (by decide) (by decide) (by decide) rfl 1 4 rfl rfl rfl rfl hl.1 rfl (Nat.le_of_ble_eq_true rfl) dX0_bitsOfAll_5 ⟨Nat.zero_le _, Nat.zero_le _⟩ (fun H locs hP hD hS => ?_)
  show W p l e rmX0_bitsOfAll s m args below meth c H locs 0 0 Q (F0 m 8 ls [.int r1, .int (1 : Int32)])
  refine lv_ishl hx hb dX0_bitsOfAll_8 ?_
  refine lv_iconst (v := (1 : Int32)) hx hb dX0_bitsOfAll_9 (by decide) ?_
  refine lv_isub hx hb dX0_bitsOfAll_10 ?_
  obtain rfl := inj1 hf
  subst hQ
  exact CM_iret hx hb hr rfl hlocks hAe hP hD hS dX0_bitsOfAll_11
def rmX4_has : Room := { frames := 0, cells := 0, slots := 0, locals := 0 }
abbrev wqX4_has : List Cond := Cond.code yX4_has cX4_has 2 (some .boolean) :: tG
set_option maxHeartbeats 4000000 in
set_option maxRecDepth 100000 in
theorem c_X4_has (l : Launch) (dC : Nat → ClassId) (dI : Nat → Nat → Nat) (cI cZ : ClassId) (te : Nat → Nat) (h_t : Nat) (h_t_cells : Nat) (t_limit : Int32) (t_size : Int32) (p1 : Int32) (o0 : Int32) (hf : f_X4_has t_size p1 = some o0) : CM l yX4_has wqX4_has rmX4_has (kS te) dC dI cI cZ [.ref h_t, .int p1] [(h_t, .inr (4, fX4 t_limit h_t_cells t_size))] [(h_t, .inr (4, fX4 t_limit h_t_cells t_size))] (some (.int o0)) := by
  refine CM_of (cc := cX4_has) (maxL := 2) (ret := (some .boolean)) (by decide +kernel) rfl (Nat.le_of_ble_eq_true rfl) ?_
  intro p e s m args below meth c A Q hx hb hr hml hown hts hlocks hA hK hP hD hS hE hQ hAe ls hl
  have hown : s.vm.findClass RX4 = some m.cls := hown
  have hl : lv_has ls 2 [(0, .ref h_t), (1, .int p1)] := hl
  unfold f_X4_has at hf
  refine lv_iload_n hx hb dX4_has_0 rfl (lv_at hl 1 rfl) ?_
  refine lv_if_lt (tgt := 16) hx hb dX4_has_1 (by decide) (fun c1 => ?_) (fun c1 => ?_)
  · replace hf := ifp c1 hf
    refine lv_iconst (v := (0 : Int32)) hx hb dX4_has_16 (by decide) ?_
    obtain rfl := inj1 hf
    subst hQ
    exact CM_iret hx hb hr rfl hlocks hAe hP hD hS dX4_has_17
  · replace hf := ifn c1 hf
    refine lv_iload_n hx hb dX4_has_4 rfl (lv_at hl 1 rfl) ?_
    refine lv_aload_n hx hb dX4_has_5 rfl (lv_at hl 0 rfl) ?_
    refine va_get (D := (dC, dI)) (ci := 4) (v := .int t_size) (C := RX4) (T := TX4) (N := 3) hx hb hts (in1 tw_X4) hown hK hP 0 rfl rfl 2 (by decide) (hts _ (List.mem_cons_of_mem _ kw_401)) (fun _ h9 => h9) rfl dX4_has_6 ?_
    refine lv_icmp_ge (tgt := 16) hx hb dX4_has_9 (by decide) (fun c2 => ?_) (fun c2 => ?_)
    · replace hf := ifp c2 hf
      refine lv_iconst (v := (0 : Int32)) hx hb dX4_has_16 (by decide) ?_
      obtain rfl := inj1 hf
      subst hQ
      exact CM_iret hx hb hr rfl hlocks hAe hP hD hS dX4_has_17
    · replace hf := ifn c2 hf
      refine lv_iconst (v := (1 : Int32)) hx hb dX4_has_12 (by decide) ?_
      refine lv_goto (tgt := 17) hx hb dX4_has_13 (by decide) ?_
      obtain rfl := inj1 hf
      subst hQ
      exact CM_iret hx hb hr rfl hlocks hAe hP hD hS dX4_has_17
def rmX4_cell : Room := { frames := 1, cells := 0, slots := 0, locals := 21 }
abbrev wqX4_cell : List Cond := Cond.code yX4_cell cX4_cell 3 (some .int) :: tG
set_option maxHeartbeats 4000000 in
set_option maxRecDepth 100000 in
theorem c_X4_cell (l : Launch) (dC : Nat → ClassId) (dI : Nat → Nat → Nat) (cI cZ : ClassId) (te : Nat → Nat) (h_t : Nat) (h_t_cells : Nat) (t_limit : Int32) (t_size : Int32) (n_t_cells : Nat) (t_cells : Nat → Int32) (p1 : Int32) (p2 : Int32) (o0 : Int32) (hf : f_X4_cell t_size n_t_cells t_cells p1 p2 = some o0) : CM l yX4_cell wqX4_cell rmX4_cell (kS te) dC dI cI cZ [.ref h_t, .int p1, .int p2] [(h_t, .inr (4, fX4 t_limit h_t_cells t_size)), (h_t_cells, .inl (cI, n_t_cells, .inl t_cells))] [(h_t, .inr (4, fX4 t_limit h_t_cells t_size)), (h_t_cells, .inl (cI, n_t_cells, .inl t_cells))] (some (.int o0)) := by
  refine CM_of (cc := cX4_cell) (maxL := 3) (ret := (some .int)) (by decide +kernel) rfl (Nat.le_of_ble_eq_true rfl) ?_
  intro p e s m args below meth c A Q hx hb hr hml hown hts hlocks hA hK hP hD hS hE hQ hAe ls hl
  have hown : s.vm.findClass RX4 = some m.cls := hown
  have hl : lv_has ls 3 [(0, .ref h_t), (1, .int p1), (2, .int p2)] := hl
  unfold f_X4_cell at hf
  refine lv_aload_n hx hb dX4_cell_0 rfl (lv_at hl 0 rfl) ?_
  refine lv_iload_n hx hb dX4_cell_1 rfl (lv_at hl 1 rfl) ?_
  obtain ⟨r1, hg2, hf⟩ := bd1_some hf
  refine CM_callV (C := RX4) (As := [.int p1]) (rest := []) (wc := [(h_t, .inr (4, fX4 t_limit h_t_cells t_size))]) (w1 := [(h_t, .inr (4, fX4 t_limit h_t_cells t_size))]) (wr := [(h_t_cells, .inl (cI, n_t_cells, .inl t_cells))]) (wo := [(h_t, .inr (4, fX4 t_limit h_t_cells t_size)), (h_t_cells, .inl (cI, n_t_cells, .inl t_cells))]) (v := (some (.int r1))) ⟨hx, hb, hml, hown, hts⟩ (c_X4_has l dC dI cI cZ te h_t h_t_cells t_limit t_size p1 r1 hg2) (cwV 1 hts (gV kw_407 kw_408 kw_409 kw_19 kw_410) rfl rfl rfl (by decide +kernel) ⟨Nat.le_of_ble_eq_true rfl, Nat.le_of_ble_eq_true rfl⟩) (kS_env te) hK hP hD hS hA hE [0] [1] [1, 0] rfl rfl (by decide) (by decide) (by decide) (by decide) rfl 0 4 rfl rfl rfl rfl hl.1 rfl (Nat.le_of_ble_eq_true rfl) dX4_cell_2 ⟨Nat.zero_le _, Nat.zero_le _⟩ (fun H locs hP hD hS => ?_)
  show W p l e rmX4_cell s m args below meth c H locs 0 0 Q (F0 m 5 ls [.int r1])
  refine lv_if_eq (tgt := 17) hx hb dX4_cell_5 (by decide) (fun c3 => ?_) (fun c3 => ?_)
  · replace hf := ifp c3 hf
    refine lv_iconst (v := (0 : Int32)) hx hb dX4_cell_17 (by decide) ?_
    obtain rfl := inj1 hf
    subst hQ
    exact CM_iret hx hb hr rfl hlocks hAe hP hD hS dX4_cell_18
  · replace hf := ifn c3 hf
    refine lv_iload_n hx hb dX4_cell_8 rfl (lv_at hl 2 rfl) ?_
    refine lv_if_lt (tgt := 17) hx hb dX4_cell_9 (by decide) (fun c4 => ?_) (fun c4 => ?_)
    · replace hf := ifp c4 hf
      refine lv_iconst (v := (0 : Int32)) hx hb dX4_cell_17 (by decide) ?_
      obtain rfl := inj1 hf
      subst hQ
      exact CM_iret hx hb hr rfl hlocks hAe hP hD hS dX4_cell_18
    · replace hf := ifn c4 hf
      refine lv_iload_n hx hb dX4_cell_12 rfl (lv_at hl 2 rfl) ?_
      refine lv_iconst (v := (5 : Int32)) hx hb dX4_cell_13 (by decide) ?_
      refine lv_icmp_lt (tgt := 19) hx hb dX4_cell_14 (by decide) (fun c5 => ?_) (fun c5 => ?_)
      · replace hf := ifp c5 hf
        refine lv_aload_n hx hb dX4_cell_19 rfl (lv_at hl 0 rfl) ?_
        refine va_get (D := (dC, dI)) (ci := 4) (v := .ref h_t_cells) (C := RX4) (T := TX4) (N := 3) hx hb hts (in1 tw_X4) hown hK hP 0 rfl rfl 1 (by decide) (hts _ (List.mem_cons_of_mem _ kw_13)) (fun _ h9 => h9) rfl dX4_cell_20 ?_
        refine lv_iconst (v := (5 : Int32)) hx hb dX4_cell_23 (by decide) ?_
        refine lv_iload_n hx hb dX4_cell_24 rfl (lv_at hl 1 rfl) ?_
        refine lv_imul hx hb dX4_cell_25 ?_
        refine lv_iload_n hx hb dX4_cell_26 rfl (lv_at hl 2 rfl) ?_
        refine lv_iadd hx hb dX4_cell_27 ?_
        obtain ⟨g6, hf⟩ := chk_some hf
        refine va_iald hx hb hK hP 1 0 rfl rfl (gin_in g6) dX4_cell_28 ?_
        obtain rfl := inj1 hf
        subst hQ
        exact CM_iret hx hb hr rfl hlocks hAe hP hD hS dX4_cell_29
      · replace hf := ifn c5 hf
        refine lv_iconst (v := (0 : Int32)) hx hb dX4_cell_17 (by decide) ?_
        obtain rfl := inj1 hf
        subst hQ
        exact CM_iret hx hb hr rfl hlocks hAe hP hD hS dX4_cell_18
def rmX0_take : Room := { frames := 2, cells := 0, slots := 0, locals := 43 }
abbrev wqX0_take : List Cond := Cond.code yX0_take cX0_take 5 none :: tG
set_option maxHeartbeats 4000000 in
set_option maxRecDepth 100000 in
theorem c_X0_take (l : Launch) (dC : Nat → ClassId) (dI : Nat → Nat → Nat) (cI cZ : ClassId) (te : Nat → Nat) (h_t : Nat) (h_p1 : Nat) (h_p1_surfaces : Nat) (h_p1_cliffs : Nat) (h_p1_boulders : Nat) (h_p1_scratches : Nat) (h_p1_numbers : Nat) (h_p1_facts : Nat) (h_p1_signs : Nat) (h_p1_areas : Nat) (h_p1_heights : Nat) (h_p1_facts_cells : Nat) (h_t_least : Nat) (h_t_greatest : Nat) (h_t_leastBefore : Nat) (h_t_greatestBefore : Nat) (h_t_ridgeOf : Nat) (h_t_olderOf : Nat) (h_t_lowOf : Nat) (h_t_highOf : Nat) (h_t_cutsBetween : Nat) (h_t_soughtFor : Nat) (p1_ridges : Int32) (p1_facts_limit : Int32) (p1_facts_size : Int32) (t_taken : Int32) (t_soughtSlow : Int32) (t_soughtFast : Int32) (t_lastLeftOut : Int32) (n_p1_facts_cells : Nat) (p1_facts_cells : Nat → Int32) (t_ridgeOf : Nat → Int32) (t_olderOf : Nat → Int32) (t_lowOf : Nat → Int32) (t_highOf : Nat → Int32) (p1_numbers : Nat → Int32) (o0 : Int32) (o1 : Nat → Int32) (o2 : Nat → Int32) (o3 : Nat → Int32) (o4 : Nat → Int32) (hf : f_X0_take p1_facts_size n_p1_facts_cells p1_facts_cells t_ridgeOf t_olderOf t_lowOf t_highOf p1_numbers = some (o0, o1, o2, o3, o4)) : CM l yX0_take wqX0_take rmX0_take (kS te) dC dI cI cZ [.ref h_t, .ref h_p1] [(h_p1, .inr (1, fX1 h_p1_surfaces h_p1_cliffs h_p1_boulders h_p1_scratches h_p1_numbers h_p1_facts h_p1_signs h_p1_areas h_p1_heights p1_ridges)), (h_p1_facts, .inr (4, fX4 p1_facts_limit h_p1_facts_cells p1_facts_size)), (h_t, .inr (0, fX0 h_t_least h_t_greatest h_t_leastBefore h_t_greatestBefore h_t_ridgeOf h_t_olderOf h_t_lowOf h_t_highOf t_taken h_t_cutsBetween h_t_soughtFor t_soughtSlow t_soughtFast t_lastLeftOut)), (h_p1_facts_cells, .inl (cI, n_p1_facts_cells, .inl p1_facts_cells)), (h_t_ridgeOf, .inl (cI, 16, .inl t_ridgeOf)), (h_t_olderOf, .inl (cI, 16, .inl t_olderOf)), (h_t_lowOf, .inl (cI, 16, .inl t_lowOf)), (h_t_highOf, .inl (cI, 16, .inl t_highOf)), (h_p1_numbers, .inl (cI, 6, .inl p1_numbers))] [(h_p1, .inr (1, fX1 h_p1_surfaces h_p1_cliffs h_p1_boulders h_p1_scratches h_p1_numbers h_p1_facts h_p1_signs h_p1_areas h_p1_heights p1_ridges)), (h_p1_facts, .inr (4, fX4 p1_facts_limit h_p1_facts_cells p1_facts_size)), (h_t, .inr (0, fX0 h_t_least h_t_greatest h_t_leastBefore h_t_greatestBefore h_t_ridgeOf h_t_olderOf h_t_lowOf h_t_highOf o0 h_t_cutsBetween h_t_soughtFor t_soughtSlow t_soughtFast t_lastLeftOut)), (h_p1_facts_cells, .inl (cI, n_p1_facts_cells, .inl p1_facts_cells)), (h_t_ridgeOf, .inl (cI, 16, .inl o1)), (h_t_olderOf, .inl (cI, 16, .inl o2)), (h_t_lowOf, .inl (cI, 16, .inl o3)), (h_t_highOf, .inl (cI, 16, .inl o4)), (h_p1_numbers, .inl (cI, 6, .inl p1_numbers))] none := by
  refine CM_of (cc := cX0_take) (maxL := 5) (ret := none) (by decide +kernel) rfl (Nat.le_of_ble_eq_true rfl) ?_
  intro p e s m args below meth c A Q hx hb hr hml hown hts hlocks hA hK hP hD hS hE hQ hAe ls hl
  have hown : s.vm.findClass RX0 = some m.cls := hown
  have hl : lv_has ls 5 [(0, .ref h_t), (1, .ref h_p1)] := hl
  unfold f_X0_take at hf
  refine lv_aload_n hx hb dX0_take_0 rfl (lv_at hl 0 rfl) ?_
  refine lv_bipush (v := (16 : Int32)) hx hb dX0_take_1 (by decide) ?_
  refine lv_aload_n hx hb dX0_take_3 rfl (lv_at hl 1 rfl) ?_
  refine va_get (D := (dC, dI)) (ci := 1) (v := .ref h_p1_facts) (C := RX1) (T := TX1) (N := 10) hx hb hts (in1 tw_X1) hown hK hP 0 rfl rfl 5 (by decide) (hts _ (List.mem_cons_of_mem _ kw_402)) (fun _ h9 => h9) rfl dX0_take_4 ?_
  obtain ⟨r1, hg2, hf⟩ := bd1_some hf
  refine CM_callV (C := RX4) (As := []) (rest := [.int (16 : Int32), .ref h_t]) (wc := [(h_p1_facts, .inr (4, fX4 p1_facts_limit h_p1_facts_cells p1_facts_size))]) (w1 := [(h_p1_facts, .inr (4, fX4 p1_facts_limit h_p1_facts_cells p1_facts_size))]) (wr := [(h_p1, .inr (1, fX1 h_p1_surfaces h_p1_cliffs h_p1_boulders h_p1_scratches h_p1_numbers h_p1_facts h_p1_signs h_p1_areas h_p1_heights p1_ridges)), (h_t, .inr (0, fX0 h_t_least h_t_greatest h_t_leastBefore h_t_greatestBefore h_t_ridgeOf h_t_olderOf h_t_lowOf h_t_highOf t_taken h_t_cutsBetween h_t_soughtFor t_soughtSlow t_soughtFast t_lastLeftOut)), (h_p1_facts_cells, .inl (cI, n_p1_facts_cells, .inl p1_facts_cells)), (h_t_ridgeOf, .inl (cI, 16, .inl t_ridgeOf)), (h_t_olderOf, .inl (cI, 16, .inl t_olderOf)), (h_t_lowOf, .inl (cI, 16, .inl t_lowOf)), (h_t_highOf, .inl (cI, 16, .inl t_highOf)), (h_p1_numbers, .inl (cI, 6, .inl p1_numbers))]) (wo := [(h_p1, .inr (1, fX1 h_p1_surfaces h_p1_cliffs h_p1_boulders h_p1_scratches h_p1_numbers h_p1_facts h_p1_signs h_p1_areas h_p1_heights p1_ridges)), (h_p1_facts, .inr (4, fX4 p1_facts_limit h_p1_facts_cells p1_facts_size)), (h_t, .inr (0, fX0 h_t_least h_t_greatest h_t_leastBefore h_t_greatestBefore h_t_ridgeOf h_t_olderOf h_t_lowOf h_t_highOf t_taken h_t_cutsBetween h_t_soughtFor t_soughtSlow t_soughtFast t_lastLeftOut)), (h_p1_facts_cells, .inl (cI, n_p1_facts_cells, .inl p1_facts_cells)), (h_t_ridgeOf, .inl (cI, 16, .inl t_ridgeOf)), (h_t_olderOf, .inl (cI, 16, .inl t_olderOf)), (h_t_lowOf, .inl (cI, 16, .inl t_lowOf)), (h_t_highOf, .inl (cI, 16, .inl t_highOf)), (h_p1_numbers, .inl (cI, 6, .inl p1_numbers))]) (v := (some (.int r1))) ⟨hx, hb, hml, hown, hts⟩ (c_X4_size l dC dI cI cZ te h_p1_facts h_p1_facts_cells p1_facts_limit p1_facts_size r1 hg2) (cwV 0 hts (gV kw_403 kw_404 kw_405 kw_19 kw_406) rfl rfl rfl (by decide +kernel) ⟨Nat.le_of_ble_eq_true rfl, Nat.le_of_ble_eq_true rfl⟩) (kS_env te) hK hP hD hS hA hE [1] [0, 2, 3, 4, 5, 6, 7, 8] [0, 8, 1, 2, 3, 4, 5, 6, 7] rfl rfl (by decide) (by decide) (by decide) (by decide) rfl 1 4 rfl rfl rfl rfl hl.1 rfl (Nat.le_of_ble_eq_true rfl) dX0_take_7 ⟨Nat.zero_le _, Nat.zero_le _⟩ (fun H locs hP hD hS => ?_)
  show W p l e rmX0_take s m args below meth c H locs 0 0 Q (F0 m 10 ls [.int r1, .int (16 : Int32), .ref h_t])
  refine va_mmin hx hb (hml.trans hl.1.symm) hown (hts _ (List.mem_cons_of_mem _ kw_411)) (hts _ (List.mem_cons_of_mem _ kw_4)) (hts _ (List.mem_cons_of_mem _ kw_5)) (hts _ (List.mem_cons_of_mem _ kw_6)) (Nat.le_of_ble_eq_true rfl) (Nat.le_of_ble_eq_true rfl) (Nat.zero_le _) (Nat.zero_le _) dX0_take_10 ?_
  obtain ⟨x3, e4, hf⟩ := nm_some hf
  refine lv_tope e4 ?_
  refine va_put (D := (dC, dI)) (ci := 0) (v := .int x3) (ty := tyX0 8) (C := RX0) (T := TX0) (N := 14) hx hb hts (in1 tw_X0) tyX0 tyX0_ok nmX0 hown hK hP hD hS 2 rfl rfl 8 (by decide) (hts _ (List.mem_cons_of_mem _ kw_412)) (fun _ h9 => h9) rfl (tyX0_ok 8 (by decide)) rfl rfl (Nat.le_of_ble_eq_true rfl) dX0_take_13 (fun H locs hP hD hS => ?_)
  have hP : va_P (dC, dI) vwCl [(h_p1, .inr (1, fX1 h_p1_surfaces h_p1_cliffs h_p1_boulders h_p1_scratches h_p1_numbers h_p1_facts h_p1_signs h_p1_areas h_p1_heights p1_ridges)), (h_p1_facts, .inr (4, fX4 p1_facts_limit h_p1_facts_cells p1_facts_size)), (h_t, .inr (0, fX0 h_t_least h_t_greatest h_t_leastBefore h_t_greatestBefore h_t_ridgeOf h_t_olderOf h_t_lowOf h_t_highOf x3 h_t_cutsBetween h_t_soughtFor t_soughtSlow t_soughtFast t_lastLeftOut)), (h_p1_facts_cells, .inl (cI, n_p1_facts_cells, .inl p1_facts_cells)), (h_t_ridgeOf, .inl (cI, 16, .inl t_ridgeOf)), (h_t_olderOf, .inl (cI, 16, .inl t_olderOf)), (h_t_lowOf, .inl (cI, 16, .inl t_lowOf)), (h_t_highOf, .inl (cI, 16, .inl t_highOf)), (h_p1_numbers, .inl (cI, 6, .inl p1_numbers))] H := hP
  have hD : va_D A [(h_p1, .inr (1, fX1 h_p1_surfaces h_p1_cliffs h_p1_boulders h_p1_scratches h_p1_numbers h_p1_facts h_p1_signs h_p1_areas h_p1_heights p1_ridges)), (h_p1_facts, .inr (4, fX4 p1_facts_limit h_p1_facts_cells p1_facts_size)), (h_t, .inr (0, fX0 h_t_least h_t_greatest h_t_leastBefore h_t_greatestBefore h_t_ridgeOf h_t_olderOf h_t_lowOf h_t_highOf x3 h_t_cutsBetween h_t_soughtFor t_soughtSlow t_soughtFast t_lastLeftOut)), (h_p1_facts_cells, .inl (cI, n_p1_facts_cells, .inl p1_facts_cells)), (h_t_ridgeOf, .inl (cI, 16, .inl t_ridgeOf)), (h_t_olderOf, .inl (cI, 16, .inl t_olderOf)), (h_t_lowOf, .inl (cI, 16, .inl t_lowOf)), (h_t_highOf, .inl (cI, 16, .inl t_highOf)), (h_p1_numbers, .inl (cI, 6, .inl p1_numbers))] := hD
  refine lv_iconst (v := (0 : Int32)) hx hb dX0_take_16 (by decide) ?_
  refine lv_istore_n (lv' := [(2, .int (0 : Int32)), (0, .ref h_t), (1, .ref h_p1)]) hx hb dX0_take_17 rfl hl (by decide) rfl (fun ls hl => ?_)
  have L146 : ∀ (fu82 : Nat) (y76 : Nat → Int32) (y77 : Nat → Int32) (y78 : Nat → Int32) (y79 : Nat → Int32) (x80 : Int32) (y72 : Nat → Int32) (y73 : Nat → Int32) (y74 : Nat → Int32) (y75 : Nat → Int32), f_X0_take_L1 x3 p1_facts_size n_p1_facts_cells p1_facts_cells p1_numbers fu82 y76 y77 y78 y79 x80 = some (y72, y73, y74, y75) → (∀ (H : Heap) (locs : List Loc), va_P (dC, dI) vwCl [(h_p1, .inr (1, fX1 h_p1_surfaces h_p1_cliffs h_p1_boulders h_p1_scratches h_p1_numbers h_p1_facts h_p1_signs h_p1_areas h_p1_heights p1_ridges)), (h_p1_facts, .inr (4, fX4 p1_facts_limit h_p1_facts_cells p1_facts_size)), (h_t, .inr (0, fX0 h_t_least h_t_greatest h_t_leastBefore h_t_greatestBefore h_t_ridgeOf h_t_olderOf h_t_lowOf h_t_highOf x3 h_t_cutsBetween h_t_soughtFor t_soughtSlow t_soughtFast t_lastLeftOut)), (h_p1_facts_cells, .inl (cI, n_p1_facts_cells, .inl p1_facts_cells)), (h_t_ridgeOf, .inl (cI, 16, .inl y75)), (h_t_olderOf, .inl (cI, 16, .inl y74)), (h_t_lowOf, .inl (cI, 16, .inl y73)), (h_t_highOf, .inl (cI, 16, .inl y72)), (h_p1_numbers, .inl (cI, 6, .inl p1_numbers))] H → va_D A [(h_p1, .inr (1, fX1 h_p1_surfaces h_p1_cliffs h_p1_boulders h_p1_scratches h_p1_numbers h_p1_facts h_p1_signs h_p1_areas h_p1_heights p1_ridges)), (h_p1_facts, .inr (4, fX4 p1_facts_limit h_p1_facts_cells p1_facts_size)), (h_t, .inr (0, fX0 h_t_least h_t_greatest h_t_leastBefore h_t_greatestBefore h_t_ridgeOf h_t_olderOf h_t_lowOf h_t_highOf x3 h_t_cutsBetween h_t_soughtFor t_soughtSlow t_soughtFast t_lastLeftOut)), (h_p1_facts_cells, .inl (cI, n_p1_facts_cells, .inl p1_facts_cells)), (h_t_ridgeOf, .inl (cI, 16, .inl y75)), (h_t_olderOf, .inl (cI, 16, .inl y74)), (h_t_lowOf, .inl (cI, 16, .inl y73)), (h_t_highOf, .inl (cI, 16, .inl y72)), (h_p1_numbers, .inl (cI, 6, .inl p1_numbers))] → va_S A s.heap H locs → ∀ ls : Array Slot, lv_has ls 5 [] → W p l e rmX0_take s m args below meth c H locs 0 0 Q (F0 m 192 ls [])) → ∀ (H : Heap) (locs : List Loc), va_P (dC, dI) vwCl [(h_p1, .inr (1, fX1 h_p1_surfaces h_p1_cliffs h_p1_boulders h_p1_scratches h_p1_numbers h_p1_facts h_p1_signs h_p1_areas h_p1_heights p1_ridges)), (h_p1_facts, .inr (4, fX4 p1_facts_limit h_p1_facts_cells p1_facts_size)), (h_t, .inr (0, fX0 h_t_least h_t_greatest h_t_leastBefore h_t_greatestBefore h_t_ridgeOf h_t_olderOf h_t_lowOf h_t_highOf x3 h_t_cutsBetween h_t_soughtFor t_soughtSlow t_soughtFast t_lastLeftOut)), (h_p1_facts_cells, .inl (cI, n_p1_facts_cells, .inl p1_facts_cells)), (h_t_ridgeOf, .inl (cI, 16, .inl y79)), (h_t_olderOf, .inl (cI, 16, .inl y78)), (h_t_lowOf, .inl (cI, 16, .inl y77)), (h_t_highOf, .inl (cI, 16, .inl y76)), (h_p1_numbers, .inl (cI, 6, .inl p1_numbers))] H → va_D A [(h_p1, .inr (1, fX1 h_p1_surfaces h_p1_cliffs h_p1_boulders h_p1_scratches h_p1_numbers h_p1_facts h_p1_signs h_p1_areas h_p1_heights p1_ridges)), (h_p1_facts, .inr (4, fX4 p1_facts_limit h_p1_facts_cells p1_facts_size)), (h_t, .inr (0, fX0 h_t_least h_t_greatest h_t_leastBefore h_t_greatestBefore h_t_ridgeOf h_t_olderOf h_t_lowOf h_t_highOf x3 h_t_cutsBetween h_t_soughtFor t_soughtSlow t_soughtFast t_lastLeftOut)), (h_p1_facts_cells, .inl (cI, n_p1_facts_cells, .inl p1_facts_cells)), (h_t_ridgeOf, .inl (cI, 16, .inl y79)), (h_t_olderOf, .inl (cI, 16, .inl y78)), (h_t_lowOf, .inl (cI, 16, .inl y77)), (h_t_highOf, .inl (cI, 16, .inl y76)), (h_p1_numbers, .inl (cI, 6, .inl p1_numbers))] → va_S A s.heap H locs → ∀ ls : Array Slot, lv_has ls 5 [(0, .ref h_t), (1, .ref h_p1), (2, .int x80)] → W p l e rmX0_take s m args below meth c H locs 0 0 Q (F0 m 18 ls []) := by
    intro fu82
    induction fu82 with
    | zero =>
      intro y76 y77 y78 y79 x80 y72 y73 y74 y75 hf
      unfold f_X0_take_L1 at hf
      exact none_ne hf
    | succ fu82 ih81 =>
      intro y76 y77 y78 y79 x80 y72 y73 y74 y75 hf hX83 H locs hP hD hS ls hl
      unfold f_X0_take_L1 at hf
      refine lv_iload_n hx hb dX0_take_18 rfl (lv_at hl 2 rfl) ?_
      refine lv_aload_n hx hb dX0_take_19 rfl (lv_at hl 0 rfl) ?_
      refine va_get (D := (dC, dI)) (ci := 0) (v := .int x3) (C := RX0) (T := TX0) (N := 14) hx hb hts (in1 tw_X0) hown hK hP 2 rfl rfl 8 (by decide) (hts _ (List.mem_cons_of_mem _ kw_412)) (fun _ h9 => h9) rfl dX0_take_20 ?_
      refine lv_icmp_ge (tgt := 192) hx hb dX0_take_23 (by decide) (fun c84 => ?_) (fun c84 => ?_)
      · replace hf := ifp c84 hf
        obtain ⟨rfl, rfl, rfl, rfl⟩ := inj4 hf
        exact hX83 _ _ hP hD hS _ (lv_sub hl [] rfl)
      · replace hf := ifn c84 hf
        refine lv_aload_n hx hb dX0_take_26 rfl (lv_at hl 1 rfl) ?_
        refine va_get (D := (dC, dI)) (ci := 1) (v := .ref h_p1_facts) (C := RX1) (T := TX1) (N := 10) hx hb hts (in1 tw_X1) hown hK hP 0 rfl rfl 5 (by decide) (hts _ (List.mem_cons_of_mem _ kw_402)) (fun _ h9 => h9) rfl dX0_take_27 ?_
        refine lv_iload_n hx hb dX0_take_30 rfl (lv_at hl 2 rfl) ?_
        refine lv_iconst (v := (1 : Int32)) hx hb dX0_take_31 (by decide) ?_
        obtain ⟨r85, hg86, hf⟩ := bd1_some hf
        refine CM_callV (C := RX4) (As := [.int x80, .int (1 : Int32)]) (rest := []) (wc := [(h_p1_facts, .inr (4, fX4 p1_facts_limit h_p1_facts_cells p1_facts_size)), (h_p1_facts_cells, .inl (cI, n_p1_facts_cells, .inl p1_facts_cells))]) (w1 := [(h_p1_facts, .inr (4, fX4 p1_facts_limit h_p1_facts_cells p1_facts_size)), (h_p1_facts_cells, .inl (cI, n_p1_facts_cells, .inl p1_facts_cells))]) (wr := [(h_p1, .inr (1, fX1 h_p1_surfaces h_p1_cliffs h_p1_boulders h_p1_scratches h_p1_numbers h_p1_facts h_p1_signs h_p1_areas h_p1_heights p1_ridges)), (h_t, .inr (0, fX0 h_t_least h_t_greatest h_t_leastBefore h_t_greatestBefore h_t_ridgeOf h_t_olderOf h_t_lowOf h_t_highOf x3 h_t_cutsBetween h_t_soughtFor t_soughtSlow t_soughtFast t_lastLeftOut)), (h_t_ridgeOf, .inl (cI, 16, .inl y79)), (h_t_olderOf, .inl (cI, 16, .inl y78)), (h_t_lowOf, .inl (cI, 16, .inl y77)), (h_t_highOf, .inl (cI, 16, .inl y76)), (h_p1_numbers, .inl (cI, 6, .inl p1_numbers))]) (wo := [(h_p1, .inr (1, fX1 h_p1_surfaces h_p1_cliffs h_p1_boulders h_p1_scratches h_p1_numbers h_p1_facts h_p1_signs h_p1_areas h_p1_heights p1_ridges)), (h_p1_facts, .inr (4, fX4 p1_facts_limit h_p1_facts_cells p1_facts_size)), (h_t, .inr (0, fX0 h_t_least h_t_greatest h_t_leastBefore h_t_greatestBefore h_t_ridgeOf h_t_olderOf h_t_lowOf h_t_highOf x3 h_t_cutsBetween h_t_soughtFor t_soughtSlow t_soughtFast t_lastLeftOut)), (h_p1_facts_cells, .inl (cI, n_p1_facts_cells, .inl p1_facts_cells)), (h_t_ridgeOf, .inl (cI, 16, .inl y79)), (h_t_olderOf, .inl (cI, 16, .inl y78)), (h_t_lowOf, .inl (cI, 16, .inl y77)), (h_t_highOf, .inl (cI, 16, .inl y76)), (h_p1_numbers, .inl (cI, 6, .inl p1_numbers))]) (v := (some (.int r85))) ⟨hx, hb, hml, hown, hts⟩ (c_X4_cell l dC dI cI cZ te h_p1_facts h_p1_facts_cells p1_facts_limit p1_facts_size n_p1_facts_cells p1_facts_cells x80 (1 : Int32) r85 hg86) (cwV 2 hts (gV kw_413 kw_414 kw_415 kw_19 kw_416) rfl rfl rfl (by decide +kernel) ⟨Nat.le_of_ble_eq_true rfl, Nat.le_of_ble_eq_true rfl⟩) (kS_env te) hK hP hD hS hA hE [1, 3] [0, 2, 4, 5, 6, 7, 8] [0, 7, 1, 8, 2, 3, 4, 5, 6] rfl rfl (by decide) (by decide) (by decide) (by decide) rfl 1 4 rfl rfl rfl rfl hl.1 rfl (Nat.le_of_ble_eq_true rfl) dX0_take_32 ⟨Nat.zero_le _, Nat.zero_le _⟩ (fun H locs hP hD hS => ?_)
        show W p l e rmX0_take s m args below meth c H locs 0 0 Q (F0 m 35 ls [.int r85])
        refine lv_istore_n (lv' := [(3, .int r85), (0, .ref h_t), (1, .ref h_p1), (2, .int x80)]) hx hb dX0_take_35 rfl hl (by decide) rfl (fun ls hl => ?_)
        refine lv_aload_n hx hb dX0_take_36 rfl (lv_at hl 2 rfl) ?_
        refine va_get (D := (dC, dI)) (ci := 1) (v := .ref h_p1_facts) (C := RX1) (T := TX1) (N := 10) hx hb hts (in1 tw_X1) hown hK hP 0 rfl rfl 5 (by decide) (hts _ (List.mem_cons_of_mem _ kw_402)) (fun _ h9 => h9) rfl dX0_take_37 ?_
        refine lv_iload_n hx hb dX0_take_40 rfl (lv_at hl 3 rfl) ?_
        refine lv_iconst (v := (3 : Int32)) hx hb dX0_take_41 (by decide) ?_
        obtain ⟨r87, hg88, hf⟩ := bd1_some hf
        refine CM_callV (C := RX4) (As := [.int x80, .int (3 : Int32)]) (rest := []) (wc := [(h_p1_facts, .inr (4, fX4 p1_facts_limit h_p1_facts_cells p1_facts_size)), (h_p1_facts_cells, .inl (cI, n_p1_facts_cells, .inl p1_facts_cells))]) (w1 := [(h_p1_facts, .inr (4, fX4 p1_facts_limit h_p1_facts_cells p1_facts_size)), (h_p1_facts_cells, .inl (cI, n_p1_facts_cells, .inl p1_facts_cells))]) (wr := [(h_p1, .inr (1, fX1 h_p1_surfaces h_p1_cliffs h_p1_boulders h_p1_scratches h_p1_numbers h_p1_facts h_p1_signs h_p1_areas h_p1_heights p1_ridges)), (h_t, .inr (0, fX0 h_t_least h_t_greatest h_t_leastBefore h_t_greatestBefore h_t_ridgeOf h_t_olderOf h_t_lowOf h_t_highOf x3 h_t_cutsBetween h_t_soughtFor t_soughtSlow t_soughtFast t_lastLeftOut)), (h_t_ridgeOf, .inl (cI, 16, .inl y79)), (h_t_olderOf, .inl (cI, 16, .inl y78)), (h_t_lowOf, .inl (cI, 16, .inl y77)), (h_t_highOf, .inl (cI, 16, .inl y76)), (h_p1_numbers, .inl (cI, 6, .inl p1_numbers))]) (wo := [(h_p1, .inr (1, fX1 h_p1_surfaces h_p1_cliffs h_p1_boulders h_p1_scratches h_p1_numbers h_p1_facts h_p1_signs h_p1_areas h_p1_heights p1_ridges)), (h_p1_facts, .inr (4, fX4 p1_facts_limit h_p1_facts_cells p1_facts_size)), (h_t, .inr (0, fX0 h_t_least h_t_greatest h_t_leastBefore h_t_greatestBefore h_t_ridgeOf h_t_olderOf h_t_lowOf h_t_highOf x3 h_t_cutsBetween h_t_soughtFor t_soughtSlow t_soughtFast t_lastLeftOut)), (h_p1_facts_cells, .inl (cI, n_p1_facts_cells, .inl p1_facts_cells)), (h_t_ridgeOf, .inl (cI, 16, .inl y79)), (h_t_olderOf, .inl (cI, 16, .inl y78)), (h_t_lowOf, .inl (cI, 16, .inl y77)), (h_t_highOf, .inl (cI, 16, .inl y76)), (h_p1_numbers, .inl (cI, 6, .inl p1_numbers))]) (v := (some (.int r87))) ⟨hx, hb, hml, hown, hts⟩ (c_X4_cell l dC dI cI cZ te h_p1_facts h_p1_facts_cells p1_facts_limit p1_facts_size n_p1_facts_cells p1_facts_cells x80 (3 : Int32) r87 hg88) (cwV 2 hts (gV kw_413 kw_414 kw_415 kw_19 kw_416) rfl rfl rfl (by decide +kernel) ⟨Nat.le_of_ble_eq_true rfl, Nat.le_of_ble_eq_true rfl⟩) (kS_env te) hK hP hD hS hA hE [1, 3] [0, 2, 4, 5, 6, 7, 8] [0, 7, 1, 8, 2, 3, 4, 5, 6] rfl rfl (by decide) (by decide) (by decide) (by decide) rfl 1 4 rfl rfl rfl rfl hl.1 rfl (Nat.le_of_ble_eq_true rfl) dX0_take_42 ⟨Nat.zero_le _, Nat.zero_le _⟩ (fun H locs hP hD hS => ?_)
        show W p l e rmX0_take s m args below meth c H locs 0 0 Q (F0 m 45 ls [.int r87])
        refine lv_istore (lv' := [(4, .int r87), (3, .int r85), (0, .ref h_t), (1, .ref h_p1), (2, .int x80)]) hx hb dX0_take_45 hl (by decide) rfl (fun ls hl => ?_)
        refine lv_aload_n hx hb dX0_take_47 rfl (lv_at hl 2 rfl) ?_
        refine va_get (D := (dC, dI)) (ci := 0) (v := .ref h_t_ridgeOf) (C := RX0) (T := TX0) (N := 14) hx hb hts (in1 tw_X0) hown hK hP 2 rfl rfl 4 (by decide) (hts _ (List.mem_cons_of_mem _ kw_42)) (fun _ h9 => h9) rfl dX0_take_48 ?_
        refine lv_iload_n hx hb dX0_take_51 rfl (lv_at hl 4 rfl) ?_
        refine lv_aload_n hx hb dX0_take_52 rfl (lv_at hl 3 rfl) ?_
        refine va_get (D := (dC, dI)) (ci := 1) (v := .ref h_p1_facts) (C := RX1) (T := TX1) (N := 10) hx hb hts (in1 tw_X1) hown hK hP 0 rfl rfl 5 (by decide) (hts _ (List.mem_cons_of_mem _ kw_402)) (fun _ h9 => h9) rfl dX0_take_53 ?_
        refine lv_iload_n hx hb dX0_take_56 rfl (lv_at hl 4 rfl) ?_
        refine lv_iconst (v := (2 : Int32)) hx hb dX0_take_57 (by decide) ?_
        obtain ⟨r89, hg90, hf⟩ := bd1_some hf
        refine CM_callV (C := RX4) (As := [.int x80, .int (2 : Int32)]) (rest := [.int x80, .ref h_t_ridgeOf]) (wc := [(h_p1_facts, .inr (4, fX4 p1_facts_limit h_p1_facts_cells p1_facts_size)), (h_p1_facts_cells, .inl (cI, n_p1_facts_cells, .inl p1_facts_cells))]) (w1 := [(h_p1_facts, .inr (4, fX4 p1_facts_limit h_p1_facts_cells p1_facts_size)), (h_p1_facts_cells, .inl (cI, n_p1_facts_cells, .inl p1_facts_cells))]) (wr := [(h_p1, .inr (1, fX1 h_p1_surfaces h_p1_cliffs h_p1_boulders h_p1_scratches h_p1_numbers h_p1_facts h_p1_signs h_p1_areas h_p1_heights p1_ridges)), (h_t, .inr (0, fX0 h_t_least h_t_greatest h_t_leastBefore h_t_greatestBefore h_t_ridgeOf h_t_olderOf h_t_lowOf h_t_highOf x3 h_t_cutsBetween h_t_soughtFor t_soughtSlow t_soughtFast t_lastLeftOut)), (h_t_ridgeOf, .inl (cI, 16, .inl y79)), (h_t_olderOf, .inl (cI, 16, .inl y78)), (h_t_lowOf, .inl (cI, 16, .inl y77)), (h_t_highOf, .inl (cI, 16, .inl y76)), (h_p1_numbers, .inl (cI, 6, .inl p1_numbers))]) (wo := [(h_p1, .inr (1, fX1 h_p1_surfaces h_p1_cliffs h_p1_boulders h_p1_scratches h_p1_numbers h_p1_facts h_p1_signs h_p1_areas h_p1_heights p1_ridges)), (h_p1_facts, .inr (4, fX4 p1_facts_limit h_p1_facts_cells p1_facts_size)), (h_t, .inr (0, fX0 h_t_least h_t_greatest h_t_leastBefore h_t_greatestBefore h_t_ridgeOf h_t_olderOf h_t_lowOf h_t_highOf x3 h_t_cutsBetween h_t_soughtFor t_soughtSlow t_soughtFast t_lastLeftOut)), (h_p1_facts_cells, .inl (cI, n_p1_facts_cells, .inl p1_facts_cells)), (h_t_ridgeOf, .inl (cI, 16, .inl y79)), (h_t_olderOf, .inl (cI, 16, .inl y78)), (h_t_lowOf, .inl (cI, 16, .inl y77)), (h_t_highOf, .inl (cI, 16, .inl y76)), (h_p1_numbers, .inl (cI, 6, .inl p1_numbers))]) (v := (some (.int r89))) ⟨hx, hb, hml, hown, hts⟩ (c_X4_cell l dC dI cI cZ te h_p1_facts h_p1_facts_cells p1_facts_limit p1_facts_size n_p1_facts_cells p1_facts_cells x80 (2 : Int32) r89 hg90) (cwV 2 hts (gV kw_413 kw_414 kw_415 kw_19 kw_416) rfl rfl rfl (by decide +kernel) ⟨Nat.le_of_ble_eq_true rfl, Nat.le_of_ble_eq_true rfl⟩) (kS_env te) hK hP hD hS hA hE [1, 3] [0, 2, 4, 5, 6, 7, 8] [0, 7, 1, 8, 2, 3, 4, 5, 6] rfl rfl (by decide) (by decide) (by decide) (by decide) rfl 1 4 rfl rfl rfl rfl hl.1 rfl (Nat.le_of_ble_eq_true rfl) dX0_take_58 ⟨Nat.zero_le _, Nat.zero_le _⟩ (fun H locs hP hD hS => ?_)
        show W p l e rmX0_take s m args below meth c H locs 0 0 Q (F0 m 61 ls [.int r89, .int x80, .ref h_t_ridgeOf])
        refine lv_bipush (v := (7 : Int32)) hx hb dX0_take_61 (by decide) ?_
        refine lv_iand hx hb dX0_take_63 ?_
        obtain ⟨x91, e92, hf⟩ := nm_some hf
        refine lv_tope e92 ?_
        obtain ⟨g93, hf⟩ := chk_some hf
        obtain ⟨y94, e95, hf⟩ := nm_some hf
        refine va_iast hx hb hK hP hD hS 4 0 rfl rfl (gin_in g93) dX0_take_64 (fun H locs hP hD hS => ?_)
        have hP : va_P (dC, dI) vwCl [(h_p1, .inr (1, fX1 h_p1_surfaces h_p1_cliffs h_p1_boulders h_p1_scratches h_p1_numbers h_p1_facts h_p1_signs h_p1_areas h_p1_heights p1_ridges)), (h_p1_facts, .inr (4, fX4 p1_facts_limit h_p1_facts_cells p1_facts_size)), (h_t, .inr (0, fX0 h_t_least h_t_greatest h_t_leastBefore h_t_greatestBefore h_t_ridgeOf h_t_olderOf h_t_lowOf h_t_highOf x3 h_t_cutsBetween h_t_soughtFor t_soughtSlow t_soughtFast t_lastLeftOut)), (h_p1_facts_cells, .inl (cI, n_p1_facts_cells, .inl p1_facts_cells)), (h_t_ridgeOf, .inl (cI, 16, .inl y94)), (h_t_olderOf, .inl (cI, 16, .inl y78)), (h_t_lowOf, .inl (cI, 16, .inl y77)), (h_t_highOf, .inl (cI, 16, .inl y76)), (h_p1_numbers, .inl (cI, 6, .inl p1_numbers))] H := by rw [e95]; exact hP
        have hD : va_D A [(h_p1, .inr (1, fX1 h_p1_surfaces h_p1_cliffs h_p1_boulders h_p1_scratches h_p1_numbers h_p1_facts h_p1_signs h_p1_areas h_p1_heights p1_ridges)), (h_p1_facts, .inr (4, fX4 p1_facts_limit h_p1_facts_cells p1_facts_size)), (h_t, .inr (0, fX0 h_t_least h_t_greatest h_t_leastBefore h_t_greatestBefore h_t_ridgeOf h_t_olderOf h_t_lowOf h_t_highOf x3 h_t_cutsBetween h_t_soughtFor t_soughtSlow t_soughtFast t_lastLeftOut)), (h_p1_facts_cells, .inl (cI, n_p1_facts_cells, .inl p1_facts_cells)), (h_t_ridgeOf, .inl (cI, 16, .inl y94)), (h_t_olderOf, .inl (cI, 16, .inl y78)), (h_t_lowOf, .inl (cI, 16, .inl y77)), (h_t_highOf, .inl (cI, 16, .inl y76)), (h_p1_numbers, .inl (cI, 6, .inl p1_numbers))] := by rw [e95]; exact hD
        refine lv_aload_n hx hb dX0_take_65 rfl (lv_at hl 2 rfl) ?_
        refine va_get (D := (dC, dI)) (ci := 0) (v := .ref h_t_olderOf) (C := RX0) (T := TX0) (N := 14) hx hb hts (in1 tw_X0) hown hK hP 2 rfl rfl 5 (by decide) (hts _ (List.mem_cons_of_mem _ kw_43)) (fun _ h9 => h9) rfl dX0_take_66 ?_
        refine lv_iload_n hx hb dX0_take_69 rfl (lv_at hl 4 rfl) ?_
        refine lv_iload_n hx hb dX0_take_70 rfl (lv_at hl 1 rfl) ?_
        obtain ⟨x96, hg, hf⟩ := bd1_some hf
        have J97 : ∀ (H : Heap) (locs : List Loc), va_P (dC, dI) vwCl [(h_p1, .inr (1, fX1 h_p1_surfaces h_p1_cliffs h_p1_boulders h_p1_scratches h_p1_numbers h_p1_facts h_p1_signs h_p1_areas h_p1_heights p1_ridges)), (h_p1_facts, .inr (4, fX4 p1_facts_limit h_p1_facts_cells p1_facts_size)), (h_t, .inr (0, fX0 h_t_least h_t_greatest h_t_leastBefore h_t_greatestBefore h_t_ridgeOf h_t_olderOf h_t_lowOf h_t_highOf x3 h_t_cutsBetween h_t_soughtFor t_soughtSlow t_soughtFast t_lastLeftOut)), (h_p1_facts_cells, .inl (cI, n_p1_facts_cells, .inl p1_facts_cells)), (h_t_ridgeOf, .inl (cI, 16, .inl y94)), (h_t_olderOf, .inl (cI, 16, .inl y78)), (h_t_lowOf, .inl (cI, 16, .inl y77)), (h_t_highOf, .inl (cI, 16, .inl y76)), (h_p1_numbers, .inl (cI, 6, .inl p1_numbers))] H → va_D A [(h_p1, .inr (1, fX1 h_p1_surfaces h_p1_cliffs h_p1_boulders h_p1_scratches h_p1_numbers h_p1_facts h_p1_signs h_p1_areas h_p1_heights p1_ridges)), (h_p1_facts, .inr (4, fX4 p1_facts_limit h_p1_facts_cells p1_facts_size)), (h_t, .inr (0, fX0 h_t_least h_t_greatest h_t_leastBefore h_t_greatestBefore h_t_ridgeOf h_t_olderOf h_t_lowOf h_t_highOf x3 h_t_cutsBetween h_t_soughtFor t_soughtSlow t_soughtFast t_lastLeftOut)), (h_p1_facts_cells, .inl (cI, n_p1_facts_cells, .inl p1_facts_cells)), (h_t_ridgeOf, .inl (cI, 16, .inl y94)), (h_t_olderOf, .inl (cI, 16, .inl y78)), (h_t_lowOf, .inl (cI, 16, .inl y77)), (h_t_highOf, .inl (cI, 16, .inl y76)), (h_p1_numbers, .inl (cI, 6, .inl p1_numbers))] → va_S A s.heap H locs → ∀ ls : Array Slot, lv_has ls 5 [(0, .ref h_t), (1, .ref h_p1), (2, .int x80), (3, .int r85), (4, .int r87)] → W p l e rmX0_take s m args below meth c H locs 0 0 Q (F0 m 83 ls [.int x96, .int x80, .ref h_t_olderOf]) := by
          intro H locs hP hD hS ls hl
          obtain ⟨g98, hf⟩ := chk_some hf
          obtain ⟨y99, e100, hf⟩ := nm_some hf
          refine va_iast hx hb hK hP hD hS 5 0 rfl rfl (gin_in g98) dX0_take_83 (fun H locs hP hD hS => ?_)
          have hP : va_P (dC, dI) vwCl [(h_p1, .inr (1, fX1 h_p1_surfaces h_p1_cliffs h_p1_boulders h_p1_scratches h_p1_numbers h_p1_facts h_p1_signs h_p1_areas h_p1_heights p1_ridges)), (h_p1_facts, .inr (4, fX4 p1_facts_limit h_p1_facts_cells p1_facts_size)), (h_t, .inr (0, fX0 h_t_least h_t_greatest h_t_leastBefore h_t_greatestBefore h_t_ridgeOf h_t_olderOf h_t_lowOf h_t_highOf x3 h_t_cutsBetween h_t_soughtFor t_soughtSlow t_soughtFast t_lastLeftOut)), (h_p1_facts_cells, .inl (cI, n_p1_facts_cells, .inl p1_facts_cells)), (h_t_ridgeOf, .inl (cI, 16, .inl y94)), (h_t_olderOf, .inl (cI, 16, .inl y99)), (h_t_lowOf, .inl (cI, 16, .inl y77)), (h_t_highOf, .inl (cI, 16, .inl y76)), (h_p1_numbers, .inl (cI, 6, .inl p1_numbers))] H := by rw [e100]; exact hP
          have hD : va_D A [(h_p1, .inr (1, fX1 h_p1_surfaces h_p1_cliffs h_p1_boulders h_p1_scratches h_p1_numbers h_p1_facts h_p1_signs h_p1_areas h_p1_heights p1_ridges)), (h_p1_facts, .inr (4, fX4 p1_facts_limit h_p1_facts_cells p1_facts_size)), (h_t, .inr (0, fX0 h_t_least h_t_greatest h_t_leastBefore h_t_greatestBefore h_t_ridgeOf h_t_olderOf h_t_lowOf h_t_highOf x3 h_t_cutsBetween h_t_soughtFor t_soughtSlow t_soughtFast t_lastLeftOut)), (h_p1_facts_cells, .inl (cI, n_p1_facts_cells, .inl p1_facts_cells)), (h_t_ridgeOf, .inl (cI, 16, .inl y94)), (h_t_olderOf, .inl (cI, 16, .inl y99)), (h_t_lowOf, .inl (cI, 16, .inl y77)), (h_t_highOf, .inl (cI, 16, .inl y76)), (h_p1_numbers, .inl (cI, 6, .inl p1_numbers))] := by rw [e100]; exact hD
          refine lv_aload_n hx hb dX0_take_84 rfl (lv_at hl 0 rfl) ?_
          refine va_get (D := (dC, dI)) (ci := 0) (v := .ref h_t_lowOf) (C := RX0) (T := TX0) (N := 14) hx hb hts (in1 tw_X0) hown hK hP 2 rfl rfl 6 (by decide) (hts _ (List.mem_cons_of_mem _ kw_44)) (fun _ h9 => h9) rfl dX0_take_85 ?_
          refine lv_iload_n hx hb dX0_take_88 rfl (lv_at hl 2 rfl) ?_
          refine lv_iconst (v := (0 : Int32)) hx hb dX0_take_89 (by decide) ?_
          obtain ⟨g101, hf⟩ := chk_some hf
          obtain ⟨y102, e103, hf⟩ := nm_some hf
          refine va_iast hx hb hK hP hD hS 6 0 rfl rfl (gin_in g101) dX0_take_90 (fun H locs hP hD hS => ?_)
          have hP : va_P (dC, dI) vwCl [(h_p1, .inr (1, fX1 h_p1_surfaces h_p1_cliffs h_p1_boulders h_p1_scratches h_p1_numbers h_p1_facts h_p1_signs h_p1_areas h_p1_heights p1_ridges)), (h_p1_facts, .inr (4, fX4 p1_facts_limit h_p1_facts_cells p1_facts_size)), (h_t, .inr (0, fX0 h_t_least h_t_greatest h_t_leastBefore h_t_greatestBefore h_t_ridgeOf h_t_olderOf h_t_lowOf h_t_highOf x3 h_t_cutsBetween h_t_soughtFor t_soughtSlow t_soughtFast t_lastLeftOut)), (h_p1_facts_cells, .inl (cI, n_p1_facts_cells, .inl p1_facts_cells)), (h_t_ridgeOf, .inl (cI, 16, .inl y94)), (h_t_olderOf, .inl (cI, 16, .inl y99)), (h_t_lowOf, .inl (cI, 16, .inl y102)), (h_t_highOf, .inl (cI, 16, .inl y76)), (h_p1_numbers, .inl (cI, 6, .inl p1_numbers))] H := by rw [e103]; exact hP
          have hD : va_D A [(h_p1, .inr (1, fX1 h_p1_surfaces h_p1_cliffs h_p1_boulders h_p1_scratches h_p1_numbers h_p1_facts h_p1_signs h_p1_areas h_p1_heights p1_ridges)), (h_p1_facts, .inr (4, fX4 p1_facts_limit h_p1_facts_cells p1_facts_size)), (h_t, .inr (0, fX0 h_t_least h_t_greatest h_t_leastBefore h_t_greatestBefore h_t_ridgeOf h_t_olderOf h_t_lowOf h_t_highOf x3 h_t_cutsBetween h_t_soughtFor t_soughtSlow t_soughtFast t_lastLeftOut)), (h_p1_facts_cells, .inl (cI, n_p1_facts_cells, .inl p1_facts_cells)), (h_t_ridgeOf, .inl (cI, 16, .inl y94)), (h_t_olderOf, .inl (cI, 16, .inl y99)), (h_t_lowOf, .inl (cI, 16, .inl y102)), (h_t_highOf, .inl (cI, 16, .inl y76)), (h_p1_numbers, .inl (cI, 6, .inl p1_numbers))] := by rw [e103]; exact hD
          refine lv_aload_n hx hb dX0_take_91 rfl (lv_at hl 0 rfl) ?_
          refine va_get (D := (dC, dI)) (ci := 0) (v := .ref h_t_highOf) (C := RX0) (T := TX0) (N := 14) hx hb hts (in1 tw_X0) hown hK hP 2 rfl rfl 7 (by decide) (hts _ (List.mem_cons_of_mem _ kw_45)) (fun _ h9 => h9) rfl dX0_take_92 ?_
          refine lv_iload_n hx hb dX0_take_95 rfl (lv_at hl 2 rfl) ?_
          refine lv_sipush (v := (999 : Int32)) hx hb dX0_take_96 (by decide) ?_
          obtain ⟨g104, hf⟩ := chk_some hf
          obtain ⟨y105, e106, hf⟩ := nm_some hf
          refine va_iast hx hb hK hP hD hS 7 0 rfl rfl (gin_in g104) dX0_take_99 (fun H locs hP hD hS => ?_)
          have hP : va_P (dC, dI) vwCl [(h_p1, .inr (1, fX1 h_p1_surfaces h_p1_cliffs h_p1_boulders h_p1_scratches h_p1_numbers h_p1_facts h_p1_signs h_p1_areas h_p1_heights p1_ridges)), (h_p1_facts, .inr (4, fX4 p1_facts_limit h_p1_facts_cells p1_facts_size)), (h_t, .inr (0, fX0 h_t_least h_t_greatest h_t_leastBefore h_t_greatestBefore h_t_ridgeOf h_t_olderOf h_t_lowOf h_t_highOf x3 h_t_cutsBetween h_t_soughtFor t_soughtSlow t_soughtFast t_lastLeftOut)), (h_p1_facts_cells, .inl (cI, n_p1_facts_cells, .inl p1_facts_cells)), (h_t_ridgeOf, .inl (cI, 16, .inl y94)), (h_t_olderOf, .inl (cI, 16, .inl y99)), (h_t_lowOf, .inl (cI, 16, .inl y102)), (h_t_highOf, .inl (cI, 16, .inl y105)), (h_p1_numbers, .inl (cI, 6, .inl p1_numbers))] H := by rw [e106]; exact hP
          have hD : va_D A [(h_p1, .inr (1, fX1 h_p1_surfaces h_p1_cliffs h_p1_boulders h_p1_scratches h_p1_numbers h_p1_facts h_p1_signs h_p1_areas h_p1_heights p1_ridges)), (h_p1_facts, .inr (4, fX4 p1_facts_limit h_p1_facts_cells p1_facts_size)), (h_t, .inr (0, fX0 h_t_least h_t_greatest h_t_leastBefore h_t_greatestBefore h_t_ridgeOf h_t_olderOf h_t_lowOf h_t_highOf x3 h_t_cutsBetween h_t_soughtFor t_soughtSlow t_soughtFast t_lastLeftOut)), (h_p1_facts_cells, .inl (cI, n_p1_facts_cells, .inl p1_facts_cells)), (h_t_ridgeOf, .inl (cI, 16, .inl y94)), (h_t_olderOf, .inl (cI, 16, .inl y99)), (h_t_lowOf, .inl (cI, 16, .inl y102)), (h_t_highOf, .inl (cI, 16, .inl y105)), (h_p1_numbers, .inl (cI, 6, .inl p1_numbers))] := by rw [e106]; exact hD
          refine lv_iload_n hx hb dX0_take_100 rfl (lv_at hl 3 rfl) ?_
          refine lv_iconst (v := (1 : Int32)) hx hb dX0_take_101 (by decide) ?_
          obtain ⟨y107, hg, hf⟩ := bd1_some hf
          have J108 : ∀ (H : Heap) (locs : List Loc), va_P (dC, dI) vwCl [(h_p1, .inr (1, fX1 h_p1_surfaces h_p1_cliffs h_p1_boulders h_p1_scratches h_p1_numbers h_p1_facts h_p1_signs h_p1_areas h_p1_heights p1_ridges)), (h_p1_facts, .inr (4, fX4 p1_facts_limit h_p1_facts_cells p1_facts_size)), (h_t, .inr (0, fX0 h_t_least h_t_greatest h_t_leastBefore h_t_greatestBefore h_t_ridgeOf h_t_olderOf h_t_lowOf h_t_highOf x3 h_t_cutsBetween h_t_soughtFor t_soughtSlow t_soughtFast t_lastLeftOut)), (h_p1_facts_cells, .inl (cI, n_p1_facts_cells, .inl p1_facts_cells)), (h_t_ridgeOf, .inl (cI, 16, .inl y94)), (h_t_olderOf, .inl (cI, 16, .inl y99)), (h_t_lowOf, .inl (cI, 16, .inl y107)), (h_t_highOf, .inl (cI, 16, .inl y105)), (h_p1_numbers, .inl (cI, 6, .inl p1_numbers))] H → va_D A [(h_p1, .inr (1, fX1 h_p1_surfaces h_p1_cliffs h_p1_boulders h_p1_scratches h_p1_numbers h_p1_facts h_p1_signs h_p1_areas h_p1_heights p1_ridges)), (h_p1_facts, .inr (4, fX4 p1_facts_limit h_p1_facts_cells p1_facts_size)), (h_t, .inr (0, fX0 h_t_least h_t_greatest h_t_leastBefore h_t_greatestBefore h_t_ridgeOf h_t_olderOf h_t_lowOf h_t_highOf x3 h_t_cutsBetween h_t_soughtFor t_soughtSlow t_soughtFast t_lastLeftOut)), (h_p1_facts_cells, .inl (cI, n_p1_facts_cells, .inl p1_facts_cells)), (h_t_ridgeOf, .inl (cI, 16, .inl y94)), (h_t_olderOf, .inl (cI, 16, .inl y99)), (h_t_lowOf, .inl (cI, 16, .inl y107)), (h_t_highOf, .inl (cI, 16, .inl y105)), (h_p1_numbers, .inl (cI, 6, .inl p1_numbers))] → va_S A s.heap H locs → ∀ ls : Array Slot, lv_has ls 5 [(0, .ref h_t), (1, .ref h_p1), (2, .int x80), (3, .int r85), (4, .int r87)] → W p l e rmX0_take s m args below meth c H locs 0 0 Q (F0 m 118 ls []) := by
            intro H locs hP hD hS ls hl
            refine lv_iload_n hx hb dX0_take_118 rfl (lv_at hl 3 rfl) ?_
            refine lv_iconst (v := (1 : Int32)) hx hb dX0_take_119 (by decide) ?_
            obtain ⟨y109, hg, hf⟩ := bd1_some hf
            have J110 : ∀ (H : Heap) (locs : List Loc), va_P (dC, dI) vwCl [(h_p1, .inr (1, fX1 h_p1_surfaces h_p1_cliffs h_p1_boulders h_p1_scratches h_p1_numbers h_p1_facts h_p1_signs h_p1_areas h_p1_heights p1_ridges)), (h_p1_facts, .inr (4, fX4 p1_facts_limit h_p1_facts_cells p1_facts_size)), (h_t, .inr (0, fX0 h_t_least h_t_greatest h_t_leastBefore h_t_greatestBefore h_t_ridgeOf h_t_olderOf h_t_lowOf h_t_highOf x3 h_t_cutsBetween h_t_soughtFor t_soughtSlow t_soughtFast t_lastLeftOut)), (h_p1_facts_cells, .inl (cI, n_p1_facts_cells, .inl p1_facts_cells)), (h_t_ridgeOf, .inl (cI, 16, .inl y94)), (h_t_olderOf, .inl (cI, 16, .inl y99)), (h_t_lowOf, .inl (cI, 16, .inl y107)), (h_t_highOf, .inl (cI, 16, .inl y109)), (h_p1_numbers, .inl (cI, 6, .inl p1_numbers))] H → va_D A [(h_p1, .inr (1, fX1 h_p1_surfaces h_p1_cliffs h_p1_boulders h_p1_scratches h_p1_numbers h_p1_facts h_p1_signs h_p1_areas h_p1_heights p1_ridges)), (h_p1_facts, .inr (4, fX4 p1_facts_limit h_p1_facts_cells p1_facts_size)), (h_t, .inr (0, fX0 h_t_least h_t_greatest h_t_leastBefore h_t_greatestBefore h_t_ridgeOf h_t_olderOf h_t_lowOf h_t_highOf x3 h_t_cutsBetween h_t_soughtFor t_soughtSlow t_soughtFast t_lastLeftOut)), (h_p1_facts_cells, .inl (cI, n_p1_facts_cells, .inl p1_facts_cells)), (h_t_ridgeOf, .inl (cI, 16, .inl y94)), (h_t_olderOf, .inl (cI, 16, .inl y99)), (h_t_lowOf, .inl (cI, 16, .inl y107)), (h_t_highOf, .inl (cI, 16, .inl y109)), (h_p1_numbers, .inl (cI, 6, .inl p1_numbers))] → va_S A s.heap H locs → ∀ ls : Array Slot, lv_has ls 5 [(0, .ref h_t), (1, .ref h_p1), (2, .int x80), (3, .int r85), (4, .int r87)] → W p l e rmX0_take s m args below meth c H locs 0 0 Q (F0 m 138 ls []) := by
              intro H locs hP hD hS ls hl
              refine lv_iload_n hx hb dX0_take_138 rfl (lv_at hl 3 rfl) ?_
              refine lv_iconst (v := (2 : Int32)) hx hb dX0_take_139 (by decide) ?_
              obtain ⟨y111, y112, hg, hf⟩ := bd2_some hf
              have J113 : ∀ (H : Heap) (locs : List Loc), va_P (dC, dI) vwCl [(h_p1, .inr (1, fX1 h_p1_surfaces h_p1_cliffs h_p1_boulders h_p1_scratches h_p1_numbers h_p1_facts h_p1_signs h_p1_areas h_p1_heights p1_ridges)), (h_p1_facts, .inr (4, fX4 p1_facts_limit h_p1_facts_cells p1_facts_size)), (h_t, .inr (0, fX0 h_t_least h_t_greatest h_t_leastBefore h_t_greatestBefore h_t_ridgeOf h_t_olderOf h_t_lowOf h_t_highOf x3 h_t_cutsBetween h_t_soughtFor t_soughtSlow t_soughtFast t_lastLeftOut)), (h_p1_facts_cells, .inl (cI, n_p1_facts_cells, .inl p1_facts_cells)), (h_t_ridgeOf, .inl (cI, 16, .inl y94)), (h_t_olderOf, .inl (cI, 16, .inl y99)), (h_t_lowOf, .inl (cI, 16, .inl y112)), (h_t_highOf, .inl (cI, 16, .inl y111)), (h_p1_numbers, .inl (cI, 6, .inl p1_numbers))] H → va_D A [(h_p1, .inr (1, fX1 h_p1_surfaces h_p1_cliffs h_p1_boulders h_p1_scratches h_p1_numbers h_p1_facts h_p1_signs h_p1_areas h_p1_heights p1_ridges)), (h_p1_facts, .inr (4, fX4 p1_facts_limit h_p1_facts_cells p1_facts_size)), (h_t, .inr (0, fX0 h_t_least h_t_greatest h_t_leastBefore h_t_greatestBefore h_t_ridgeOf h_t_olderOf h_t_lowOf h_t_highOf x3 h_t_cutsBetween h_t_soughtFor t_soughtSlow t_soughtFast t_lastLeftOut)), (h_p1_facts_cells, .inl (cI, n_p1_facts_cells, .inl p1_facts_cells)), (h_t_ridgeOf, .inl (cI, 16, .inl y94)), (h_t_olderOf, .inl (cI, 16, .inl y99)), (h_t_lowOf, .inl (cI, 16, .inl y112)), (h_t_highOf, .inl (cI, 16, .inl y111)), (h_p1_numbers, .inl (cI, 6, .inl p1_numbers))] → va_S A s.heap H locs → ∀ ls : Array Slot, lv_has ls 5 [(0, .ref h_t), (1, .ref h_p1), (2, .int x80), (3, .int r85), (4, .int r87)] → W p l e rmX0_take s m args below meth c H locs 0 0 Q (F0 m 173 ls []) := by
                intro H locs hP hD hS ls hl
                refine lv_iload_n hx hb dX0_take_173 rfl (lv_at hl 3 rfl) ?_
                refine lv_iconst (v := (3 : Int32)) hx hb dX0_take_174 (by decide) ?_
                refine lv_icmp_ne (tgt := 186) hx hb dX0_take_175 (by decide) (fun c114 => ?_) (fun c114 => ?_)
                · replace hf := ifn c114 hf
                  refine lv_iinc (v := (x80 + (1 : Int32))) (lv' := [(2, .int (x80 + (1 : Int32))), (0, .ref h_t), (1, .ref h_p1), (3, .int r85), (4, .int r87)]) hx hb dX0_take_186 hl (k := 2) rfl rfl (by decide) rfl (fun ls hl => ?_)
                  refine lv_goto (tgt := 18) hx hb dX0_take_189 (by decide) ?_
                  exact ih81 _ _ _ _ _ _ _ _ _ hf hX83 _ _ hP hD hS _ (lv_sub hl [1, 2, 0] rfl)
                · replace hf := ifp c114 hf
                  refine lv_aload_n hx hb dX0_take_178 rfl (lv_at hl 0 rfl) ?_
                  refine va_get (D := (dC, dI)) (ci := 0) (v := .ref h_t_highOf) (C := RX0) (T := TX0) (N := 14) hx hb hts (in1 tw_X0) hown hK hP 2 rfl rfl 7 (by decide) (hts _ (List.mem_cons_of_mem _ kw_45)) (fun _ h9 => h9) rfl dX0_take_179 ?_
                  refine lv_iload_n hx hb dX0_take_182 rfl (lv_at hl 2 rfl) ?_
                  refine lv_iload hx hb dX0_take_183 (lv_at hl 4 rfl) ?_
                  obtain ⟨g115, hf⟩ := chk_some hf
                  obtain ⟨y116, e117, hf⟩ := nm_some hf
                  refine va_iast hx hb hK hP hD hS 7 0 rfl rfl (gin_in g115) dX0_take_185 (fun H locs hP hD hS => ?_)
                  have hP : va_P (dC, dI) vwCl [(h_p1, .inr (1, fX1 h_p1_surfaces h_p1_cliffs h_p1_boulders h_p1_scratches h_p1_numbers h_p1_facts h_p1_signs h_p1_areas h_p1_heights p1_ridges)), (h_p1_facts, .inr (4, fX4 p1_facts_limit h_p1_facts_cells p1_facts_size)), (h_t, .inr (0, fX0 h_t_least h_t_greatest h_t_leastBefore h_t_greatestBefore h_t_ridgeOf h_t_olderOf h_t_lowOf h_t_highOf x3 h_t_cutsBetween h_t_soughtFor t_soughtSlow t_soughtFast t_lastLeftOut)), (h_p1_facts_cells, .inl (cI, n_p1_facts_cells, .inl p1_facts_cells)), (h_t_ridgeOf, .inl (cI, 16, .inl y94)), (h_t_olderOf, .inl (cI, 16, .inl y99)), (h_t_lowOf, .inl (cI, 16, .inl y112)), (h_t_highOf, .inl (cI, 16, .inl y116)), (h_p1_numbers, .inl (cI, 6, .inl p1_numbers))] H := by rw [e117]; exact hP
                  have hD : va_D A [(h_p1, .inr (1, fX1 h_p1_surfaces h_p1_cliffs h_p1_boulders h_p1_scratches h_p1_numbers h_p1_facts h_p1_signs h_p1_areas h_p1_heights p1_ridges)), (h_p1_facts, .inr (4, fX4 p1_facts_limit h_p1_facts_cells p1_facts_size)), (h_t, .inr (0, fX0 h_t_least h_t_greatest h_t_leastBefore h_t_greatestBefore h_t_ridgeOf h_t_olderOf h_t_lowOf h_t_highOf x3 h_t_cutsBetween h_t_soughtFor t_soughtSlow t_soughtFast t_lastLeftOut)), (h_p1_facts_cells, .inl (cI, n_p1_facts_cells, .inl p1_facts_cells)), (h_t_ridgeOf, .inl (cI, 16, .inl y94)), (h_t_olderOf, .inl (cI, 16, .inl y99)), (h_t_lowOf, .inl (cI, 16, .inl y112)), (h_t_highOf, .inl (cI, 16, .inl y116)), (h_p1_numbers, .inl (cI, 6, .inl p1_numbers))] := by rw [e117]; exact hD
                  refine lv_iinc (v := (x80 + (1 : Int32))) (lv' := [(2, .int (x80 + (1 : Int32))), (0, .ref h_t), (1, .ref h_p1), (3, .int r85), (4, .int r87)]) hx hb dX0_take_186 hl (k := 2) rfl rfl (by decide) rfl (fun ls hl => ?_)
                  refine lv_goto (tgt := 18) hx hb dX0_take_189 (by decide) ?_
                  exact ih81 _ _ _ _ _ _ _ _ _ hf hX83 _ _ hP hD hS _ (lv_sub hl [1, 2, 0] rfl)
              clear hf
              have hf := hg
              refine lv_icmp_ne (tgt := 173) hx hb dX0_take_140 (by decide) (fun c118 => ?_) (fun c118 => ?_)
              · replace hf := ifn c118 hf
                obtain ⟨rfl, rfl⟩ := inj2 hf
                exact J113 _ _ hP hD hS _ (lv_sub hl [0, 1, 2, 3, 4] rfl)
              · replace hf := ifp c118 hf
                refine lv_aload_n hx hb dX0_take_143 rfl (lv_at hl 0 rfl) ?_
                refine va_get (D := (dC, dI)) (ci := 0) (v := .ref h_t_lowOf) (C := RX0) (T := TX0) (N := 14) hx hb hts (in1 tw_X0) hown hK hP 2 rfl rfl 6 (by decide) (hts _ (List.mem_cons_of_mem _ kw_44)) (fun _ h9 => h9) rfl dX0_take_144 ?_
                refine lv_iload_n hx hb dX0_take_147 rfl (lv_at hl 2 rfl) ?_
                refine lv_iload hx hb dX0_take_148 (lv_at hl 4 rfl) ?_
                refine lv_aload_n hx hb dX0_take_150 rfl (lv_at hl 1 rfl) ?_
                refine va_get (D := (dC, dI)) (ci := 1) (v := .ref h_p1_numbers) (C := RX1) (T := TX1) (N := 10) hx hb hts (in1 tw_X1) hown hK hP 0 rfl rfl 4 (by decide) (hts _ (List.mem_cons_of_mem _ kw_417)) (fun _ h9 => h9) rfl dX0_take_151 ?_
                refine lv_iconst (v := (4 : Int32)) hx hb dX0_take_154 (by decide) ?_
                obtain ⟨g119, hf⟩ := chk_some hf
                refine va_iald hx hb hK hP 8 0 rfl rfl (gin_in g119) dX0_take_155 ?_
                refine lv_imul hx hb dX0_take_156 ?_
                obtain ⟨x120, e121, hf⟩ := nm_some hf
                refine lv_tope e121 ?_
                obtain ⟨g122, hf⟩ := chk_some hf
                obtain ⟨y123, e124, hf⟩ := nm_some hf
                refine va_iast hx hb hK hP hD hS 6 0 rfl rfl (gin_in g122) dX0_take_157 (fun H locs hP hD hS => ?_)
                have hP : va_P (dC, dI) vwCl [(h_p1, .inr (1, fX1 h_p1_surfaces h_p1_cliffs h_p1_boulders h_p1_scratches h_p1_numbers h_p1_facts h_p1_signs h_p1_areas h_p1_heights p1_ridges)), (h_p1_facts, .inr (4, fX4 p1_facts_limit h_p1_facts_cells p1_facts_size)), (h_t, .inr (0, fX0 h_t_least h_t_greatest h_t_leastBefore h_t_greatestBefore h_t_ridgeOf h_t_olderOf h_t_lowOf h_t_highOf x3 h_t_cutsBetween h_t_soughtFor t_soughtSlow t_soughtFast t_lastLeftOut)), (h_p1_facts_cells, .inl (cI, n_p1_facts_cells, .inl p1_facts_cells)), (h_t_ridgeOf, .inl (cI, 16, .inl y94)), (h_t_olderOf, .inl (cI, 16, .inl y99)), (h_t_lowOf, .inl (cI, 16, .inl y123)), (h_t_highOf, .inl (cI, 16, .inl y109)), (h_p1_numbers, .inl (cI, 6, .inl p1_numbers))] H := by rw [e124]; exact hP
                have hD : va_D A [(h_p1, .inr (1, fX1 h_p1_surfaces h_p1_cliffs h_p1_boulders h_p1_scratches h_p1_numbers h_p1_facts h_p1_signs h_p1_areas h_p1_heights p1_ridges)), (h_p1_facts, .inr (4, fX4 p1_facts_limit h_p1_facts_cells p1_facts_size)), (h_t, .inr (0, fX0 h_t_least h_t_greatest h_t_leastBefore h_t_greatestBefore h_t_ridgeOf h_t_olderOf h_t_lowOf h_t_highOf x3 h_t_cutsBetween h_t_soughtFor t_soughtSlow t_soughtFast t_lastLeftOut)), (h_p1_facts_cells, .inl (cI, n_p1_facts_cells, .inl p1_facts_cells)), (h_t_ridgeOf, .inl (cI, 16, .inl y94)), (h_t_olderOf, .inl (cI, 16, .inl y99)), (h_t_lowOf, .inl (cI, 16, .inl y123)), (h_t_highOf, .inl (cI, 16, .inl y109)), (h_p1_numbers, .inl (cI, 6, .inl p1_numbers))] := by rw [e124]; exact hD
                refine lv_aload_n hx hb dX0_take_158 rfl (lv_at hl 0 rfl) ?_
                refine va_get (D := (dC, dI)) (ci := 0) (v := .ref h_t_highOf) (C := RX0) (T := TX0) (N := 14) hx hb hts (in1 tw_X0) hown hK hP 2 rfl rfl 7 (by decide) (hts _ (List.mem_cons_of_mem _ kw_45)) (fun _ h9 => h9) rfl dX0_take_159 ?_
                refine lv_iload_n hx hb dX0_take_162 rfl (lv_at hl 2 rfl) ?_
                refine lv_iload hx hb dX0_take_163 (lv_at hl 4 rfl) ?_
                refine lv_aload_n hx hb dX0_take_165 rfl (lv_at hl 1 rfl) ?_
                refine va_get (D := (dC, dI)) (ci := 1) (v := .ref h_p1_numbers) (C := RX1) (T := TX1) (N := 10) hx hb hts (in1 tw_X1) hown hK hP 0 rfl rfl 4 (by decide) (hts _ (List.mem_cons_of_mem _ kw_417)) (fun _ h9 => h9) rfl dX0_take_166 ?_
                refine lv_iconst (v := (5 : Int32)) hx hb dX0_take_169 (by decide) ?_
                obtain ⟨g125, hf⟩ := chk_some hf
                refine va_iald hx hb hK hP 8 0 rfl rfl (gin_in g125) dX0_take_170 ?_
                refine lv_imul hx hb dX0_take_171 ?_
                obtain ⟨x126, e127, hf⟩ := nm_some hf
                refine lv_tope e127 ?_
                obtain ⟨g128, hf⟩ := chk_some hf
                obtain ⟨y129, e130, hf⟩ := nm_some hf
                refine va_iast hx hb hK hP hD hS 7 0 rfl rfl (gin_in g128) dX0_take_172 (fun H locs hP hD hS => ?_)
                have hP : va_P (dC, dI) vwCl [(h_p1, .inr (1, fX1 h_p1_surfaces h_p1_cliffs h_p1_boulders h_p1_scratches h_p1_numbers h_p1_facts h_p1_signs h_p1_areas h_p1_heights p1_ridges)), (h_p1_facts, .inr (4, fX4 p1_facts_limit h_p1_facts_cells p1_facts_size)), (h_t, .inr (0, fX0 h_t_least h_t_greatest h_t_leastBefore h_t_greatestBefore h_t_ridgeOf h_t_olderOf h_t_lowOf h_t_highOf x3 h_t_cutsBetween h_t_soughtFor t_soughtSlow t_soughtFast t_lastLeftOut)), (h_p1_facts_cells, .inl (cI, n_p1_facts_cells, .inl p1_facts_cells)), (h_t_ridgeOf, .inl (cI, 16, .inl y94)), (h_t_olderOf, .inl (cI, 16, .inl y99)), (h_t_lowOf, .inl (cI, 16, .inl y123)), (h_t_highOf, .inl (cI, 16, .inl y129)), (h_p1_numbers, .inl (cI, 6, .inl p1_numbers))] H := by rw [e130]; exact hP
                have hD : va_D A [(h_p1, .inr (1, fX1 h_p1_surfaces h_p1_cliffs h_p1_boulders h_p1_scratches h_p1_numbers h_p1_facts h_p1_signs h_p1_areas h_p1_heights p1_ridges)), (h_p1_facts, .inr (4, fX4 p1_facts_limit h_p1_facts_cells p1_facts_size)), (h_t, .inr (0, fX0 h_t_least h_t_greatest h_t_leastBefore h_t_greatestBefore h_t_ridgeOf h_t_olderOf h_t_lowOf h_t_highOf x3 h_t_cutsBetween h_t_soughtFor t_soughtSlow t_soughtFast t_lastLeftOut)), (h_p1_facts_cells, .inl (cI, n_p1_facts_cells, .inl p1_facts_cells)), (h_t_ridgeOf, .inl (cI, 16, .inl y94)), (h_t_olderOf, .inl (cI, 16, .inl y99)), (h_t_lowOf, .inl (cI, 16, .inl y123)), (h_t_highOf, .inl (cI, 16, .inl y129)), (h_p1_numbers, .inl (cI, 6, .inl p1_numbers))] := by rw [e130]; exact hD
                obtain ⟨rfl, rfl⟩ := inj2 hf
                exact J113 _ _ hP hD hS _ (lv_sub hl [0, 1, 2, 3, 4] rfl)
            clear hf
            have hf := hg
            refine lv_icmp_ne (tgt := 138) hx hb dX0_take_120 (by decide) (fun c131 => ?_) (fun c131 => ?_)
            · replace hf := ifn c131 hf
              obtain rfl := inj1 hf
              exact J110 _ _ hP hD hS _ (lv_sub hl [0, 1, 2, 3, 4] rfl)
            · replace hf := ifp c131 hf
              refine lv_aload_n hx hb dX0_take_123 rfl (lv_at hl 0 rfl) ?_
              refine va_get (D := (dC, dI)) (ci := 0) (v := .ref h_t_highOf) (C := RX0) (T := TX0) (N := 14) hx hb hts (in1 tw_X0) hown hK hP 2 rfl rfl 7 (by decide) (hts _ (List.mem_cons_of_mem _ kw_45)) (fun _ h9 => h9) rfl dX0_take_124 ?_
              refine lv_iload_n hx hb dX0_take_127 rfl (lv_at hl 2 rfl) ?_
              refine lv_aload_n hx hb dX0_take_128 rfl (lv_at hl 1 rfl) ?_
              refine va_get (D := (dC, dI)) (ci := 1) (v := .ref h_p1_facts) (C := RX1) (T := TX1) (N := 10) hx hb hts (in1 tw_X1) hown hK hP 0 rfl rfl 5 (by decide) (hts _ (List.mem_cons_of_mem _ kw_402)) (fun _ h9 => h9) rfl dX0_take_129 ?_
              refine lv_iload_n hx hb dX0_take_132 rfl (lv_at hl 2 rfl) ?_
              refine lv_iconst (v := (4 : Int32)) hx hb dX0_take_133 (by decide) ?_
              obtain ⟨r132, hg133, hf⟩ := bd1_some hf
              refine CM_callV (C := RX4) (As := [.int x80, .int (4 : Int32)]) (rest := [.int x80, .ref h_t_highOf]) (wc := [(h_p1_facts, .inr (4, fX4 p1_facts_limit h_p1_facts_cells p1_facts_size)), (h_p1_facts_cells, .inl (cI, n_p1_facts_cells, .inl p1_facts_cells))]) (w1 := [(h_p1_facts, .inr (4, fX4 p1_facts_limit h_p1_facts_cells p1_facts_size)), (h_p1_facts_cells, .inl (cI, n_p1_facts_cells, .inl p1_facts_cells))]) (wr := [(h_p1, .inr (1, fX1 h_p1_surfaces h_p1_cliffs h_p1_boulders h_p1_scratches h_p1_numbers h_p1_facts h_p1_signs h_p1_areas h_p1_heights p1_ridges)), (h_t, .inr (0, fX0 h_t_least h_t_greatest h_t_leastBefore h_t_greatestBefore h_t_ridgeOf h_t_olderOf h_t_lowOf h_t_highOf x3 h_t_cutsBetween h_t_soughtFor t_soughtSlow t_soughtFast t_lastLeftOut)), (h_t_ridgeOf, .inl (cI, 16, .inl y94)), (h_t_olderOf, .inl (cI, 16, .inl y99)), (h_t_lowOf, .inl (cI, 16, .inl y107)), (h_t_highOf, .inl (cI, 16, .inl y105)), (h_p1_numbers, .inl (cI, 6, .inl p1_numbers))]) (wo := [(h_p1, .inr (1, fX1 h_p1_surfaces h_p1_cliffs h_p1_boulders h_p1_scratches h_p1_numbers h_p1_facts h_p1_signs h_p1_areas h_p1_heights p1_ridges)), (h_p1_facts, .inr (4, fX4 p1_facts_limit h_p1_facts_cells p1_facts_size)), (h_t, .inr (0, fX0 h_t_least h_t_greatest h_t_leastBefore h_t_greatestBefore h_t_ridgeOf h_t_olderOf h_t_lowOf h_t_highOf x3 h_t_cutsBetween h_t_soughtFor t_soughtSlow t_soughtFast t_lastLeftOut)), (h_p1_facts_cells, .inl (cI, n_p1_facts_cells, .inl p1_facts_cells)), (h_t_ridgeOf, .inl (cI, 16, .inl y94)), (h_t_olderOf, .inl (cI, 16, .inl y99)), (h_t_lowOf, .inl (cI, 16, .inl y107)), (h_t_highOf, .inl (cI, 16, .inl y105)), (h_p1_numbers, .inl (cI, 6, .inl p1_numbers))]) (v := (some (.int r132))) ⟨hx, hb, hml, hown, hts⟩ (c_X4_cell l dC dI cI cZ te h_p1_facts h_p1_facts_cells p1_facts_limit p1_facts_size n_p1_facts_cells p1_facts_cells x80 (4 : Int32) r132 hg133) (cwV 2 hts (gV kw_413 kw_414 kw_415 kw_19 kw_416) rfl rfl rfl (by decide +kernel) ⟨Nat.le_of_ble_eq_true rfl, Nat.le_of_ble_eq_true rfl⟩) (kS_env te) hK hP hD hS hA hE [1, 3] [0, 2, 4, 5, 6, 7, 8] [0, 7, 1, 8, 2, 3, 4, 5, 6] rfl rfl (by decide) (by decide) (by decide) (by decide) rfl 1 4 rfl rfl rfl rfl hl.1 rfl (Nat.le_of_ble_eq_true rfl) dX0_take_134 ⟨Nat.zero_le _, Nat.zero_le _⟩ (fun H locs hP hD hS => ?_)
              show W p l e rmX0_take s m args below meth c H locs 0 0 Q (F0 m 137 ls [.int r132, .int x80, .ref h_t_highOf])
              obtain ⟨g134, hf⟩ := chk_some hf
              obtain ⟨y135, e136, hf⟩ := nm_some hf
              refine va_iast hx hb hK hP hD hS 7 0 rfl rfl (gin_in g134) dX0_take_137 (fun H locs hP hD hS => ?_)
              have hP : va_P (dC, dI) vwCl [(h_p1, .inr (1, fX1 h_p1_surfaces h_p1_cliffs h_p1_boulders h_p1_scratches h_p1_numbers h_p1_facts h_p1_signs h_p1_areas h_p1_heights p1_ridges)), (h_p1_facts, .inr (4, fX4 p1_facts_limit h_p1_facts_cells p1_facts_size)), (h_t, .inr (0, fX0 h_t_least h_t_greatest h_t_leastBefore h_t_greatestBefore h_t_ridgeOf h_t_olderOf h_t_lowOf h_t_highOf x3 h_t_cutsBetween h_t_soughtFor t_soughtSlow t_soughtFast t_lastLeftOut)), (h_p1_facts_cells, .inl (cI, n_p1_facts_cells, .inl p1_facts_cells)), (h_t_ridgeOf, .inl (cI, 16, .inl y94)), (h_t_olderOf, .inl (cI, 16, .inl y99)), (h_t_lowOf, .inl (cI, 16, .inl y107)), (h_t_highOf, .inl (cI, 16, .inl y135)), (h_p1_numbers, .inl (cI, 6, .inl p1_numbers))] H := by rw [e136]; exact hP
              have hD : va_D A [(h_p1, .inr (1, fX1 h_p1_surfaces h_p1_cliffs h_p1_boulders h_p1_scratches h_p1_numbers h_p1_facts h_p1_signs h_p1_areas h_p1_heights p1_ridges)), (h_p1_facts, .inr (4, fX4 p1_facts_limit h_p1_facts_cells p1_facts_size)), (h_t, .inr (0, fX0 h_t_least h_t_greatest h_t_leastBefore h_t_greatestBefore h_t_ridgeOf h_t_olderOf h_t_lowOf h_t_highOf x3 h_t_cutsBetween h_t_soughtFor t_soughtSlow t_soughtFast t_lastLeftOut)), (h_p1_facts_cells, .inl (cI, n_p1_facts_cells, .inl p1_facts_cells)), (h_t_ridgeOf, .inl (cI, 16, .inl y94)), (h_t_olderOf, .inl (cI, 16, .inl y99)), (h_t_lowOf, .inl (cI, 16, .inl y107)), (h_t_highOf, .inl (cI, 16, .inl y135)), (h_p1_numbers, .inl (cI, 6, .inl p1_numbers))] := by rw [e136]; exact hD
              obtain rfl := inj1 hf
              exact J110 _ _ hP hD hS _ (lv_sub hl [0, 1, 2, 3, 4] rfl)
          clear hf
          have hf := hg
          refine lv_icmp_eq (tgt := 110) hx hb dX0_take_102 (by decide) (fun c137 => ?_) (fun c137 => ?_)
          · replace hf := ifp c137 hf
            refine lv_aload_n hx hb dX0_take_110 rfl (lv_at hl 0 rfl) ?_
            refine va_get (D := (dC, dI)) (ci := 0) (v := .ref h_t_lowOf) (C := RX0) (T := TX0) (N := 14) hx hb hts (in1 tw_X0) hown hK hP 2 rfl rfl 6 (by decide) (hts _ (List.mem_cons_of_mem _ kw_44)) (fun _ h9 => h9) rfl dX0_take_111 ?_
            refine lv_iload_n hx hb dX0_take_114 rfl (lv_at hl 2 rfl) ?_
            refine lv_iload hx hb dX0_take_115 (lv_at hl 4 rfl) ?_
            obtain ⟨g138, hf⟩ := chk_some hf
            obtain ⟨y139, e140, hf⟩ := nm_some hf
            refine va_iast hx hb hK hP hD hS 6 0 rfl rfl (gin_in g138) dX0_take_117 (fun H locs hP hD hS => ?_)
            have hP : va_P (dC, dI) vwCl [(h_p1, .inr (1, fX1 h_p1_surfaces h_p1_cliffs h_p1_boulders h_p1_scratches h_p1_numbers h_p1_facts h_p1_signs h_p1_areas h_p1_heights p1_ridges)), (h_p1_facts, .inr (4, fX4 p1_facts_limit h_p1_facts_cells p1_facts_size)), (h_t, .inr (0, fX0 h_t_least h_t_greatest h_t_leastBefore h_t_greatestBefore h_t_ridgeOf h_t_olderOf h_t_lowOf h_t_highOf x3 h_t_cutsBetween h_t_soughtFor t_soughtSlow t_soughtFast t_lastLeftOut)), (h_p1_facts_cells, .inl (cI, n_p1_facts_cells, .inl p1_facts_cells)), (h_t_ridgeOf, .inl (cI, 16, .inl y94)), (h_t_olderOf, .inl (cI, 16, .inl y99)), (h_t_lowOf, .inl (cI, 16, .inl y139)), (h_t_highOf, .inl (cI, 16, .inl y105)), (h_p1_numbers, .inl (cI, 6, .inl p1_numbers))] H := by rw [e140]; exact hP
            have hD : va_D A [(h_p1, .inr (1, fX1 h_p1_surfaces h_p1_cliffs h_p1_boulders h_p1_scratches h_p1_numbers h_p1_facts h_p1_signs h_p1_areas h_p1_heights p1_ridges)), (h_p1_facts, .inr (4, fX4 p1_facts_limit h_p1_facts_cells p1_facts_size)), (h_t, .inr (0, fX0 h_t_least h_t_greatest h_t_leastBefore h_t_greatestBefore h_t_ridgeOf h_t_olderOf h_t_lowOf h_t_highOf x3 h_t_cutsBetween h_t_soughtFor t_soughtSlow t_soughtFast t_lastLeftOut)), (h_p1_facts_cells, .inl (cI, n_p1_facts_cells, .inl p1_facts_cells)), (h_t_ridgeOf, .inl (cI, 16, .inl y94)), (h_t_olderOf, .inl (cI, 16, .inl y99)), (h_t_lowOf, .inl (cI, 16, .inl y139)), (h_t_highOf, .inl (cI, 16, .inl y105)), (h_p1_numbers, .inl (cI, 6, .inl p1_numbers))] := by rw [e140]; exact hD
            obtain rfl := inj1 hf
            exact J108 _ _ hP hD hS _ (lv_sub hl [0, 1, 2, 3, 4] rfl)
          · replace hf := ifn c137 hf
            refine lv_iload_n hx hb dX0_take_105 rfl (lv_at hl 3 rfl) ?_
            refine lv_iconst (v := (4 : Int32)) hx hb dX0_take_106 (by decide) ?_
            refine lv_icmp_ne (tgt := 118) hx hb dX0_take_107 (by decide) (fun c141 => ?_) (fun c141 => ?_)
            · replace hf := ifn c141 hf
              obtain rfl := inj1 hf
              exact J108 _ _ hP hD hS _ (lv_sub hl [0, 1, 2, 3, 4] rfl)
            · replace hf := ifp c141 hf
              refine lv_aload_n hx hb dX0_take_110 rfl (lv_at hl 0 rfl) ?_
              refine va_get (D := (dC, dI)) (ci := 0) (v := .ref h_t_lowOf) (C := RX0) (T := TX0) (N := 14) hx hb hts (in1 tw_X0) hown hK hP 2 rfl rfl 6 (by decide) (hts _ (List.mem_cons_of_mem _ kw_44)) (fun _ h9 => h9) rfl dX0_take_111 ?_
              refine lv_iload_n hx hb dX0_take_114 rfl (lv_at hl 2 rfl) ?_
              refine lv_iload hx hb dX0_take_115 (lv_at hl 4 rfl) ?_
              obtain ⟨g142, hf⟩ := chk_some hf
              obtain ⟨y143, e144, hf⟩ := nm_some hf
              refine va_iast hx hb hK hP hD hS 6 0 rfl rfl (gin_in g142) dX0_take_117 (fun H locs hP hD hS => ?_)
              have hP : va_P (dC, dI) vwCl [(h_p1, .inr (1, fX1 h_p1_surfaces h_p1_cliffs h_p1_boulders h_p1_scratches h_p1_numbers h_p1_facts h_p1_signs h_p1_areas h_p1_heights p1_ridges)), (h_p1_facts, .inr (4, fX4 p1_facts_limit h_p1_facts_cells p1_facts_size)), (h_t, .inr (0, fX0 h_t_least h_t_greatest h_t_leastBefore h_t_greatestBefore h_t_ridgeOf h_t_olderOf h_t_lowOf h_t_highOf x3 h_t_cutsBetween h_t_soughtFor t_soughtSlow t_soughtFast t_lastLeftOut)), (h_p1_facts_cells, .inl (cI, n_p1_facts_cells, .inl p1_facts_cells)), (h_t_ridgeOf, .inl (cI, 16, .inl y94)), (h_t_olderOf, .inl (cI, 16, .inl y99)), (h_t_lowOf, .inl (cI, 16, .inl y143)), (h_t_highOf, .inl (cI, 16, .inl y105)), (h_p1_numbers, .inl (cI, 6, .inl p1_numbers))] H := by rw [e144]; exact hP
              have hD : va_D A [(h_p1, .inr (1, fX1 h_p1_surfaces h_p1_cliffs h_p1_boulders h_p1_scratches h_p1_numbers h_p1_facts h_p1_signs h_p1_areas h_p1_heights p1_ridges)), (h_p1_facts, .inr (4, fX4 p1_facts_limit h_p1_facts_cells p1_facts_size)), (h_t, .inr (0, fX0 h_t_least h_t_greatest h_t_leastBefore h_t_greatestBefore h_t_ridgeOf h_t_olderOf h_t_lowOf h_t_highOf x3 h_t_cutsBetween h_t_soughtFor t_soughtSlow t_soughtFast t_lastLeftOut)), (h_p1_facts_cells, .inl (cI, n_p1_facts_cells, .inl p1_facts_cells)), (h_t_ridgeOf, .inl (cI, 16, .inl y94)), (h_t_olderOf, .inl (cI, 16, .inl y99)), (h_t_lowOf, .inl (cI, 16, .inl y143)), (h_t_highOf, .inl (cI, 16, .inl y105)), (h_p1_numbers, .inl (cI, 6, .inl p1_numbers))] := by rw [e144]; exact hD
              obtain rfl := inj1 hf
              exact J108 _ _ hP hD hS _ (lv_sub hl [0, 1, 2, 3, 4] rfl)
        clear hf
        have hf := hg
        refine lv_if_ne (tgt := 82) hx hb dX0_take_71 (by decide) (fun c145 => ?_) (fun c145 => ?_)
        · replace hf := ifn c145 hf
          refine lv_iconst (v := (-1 : Int32)) hx hb dX0_take_82 (by decide) ?_
          obtain rfl := inj1 hf
          exact J97 _ _ hP hD hS _ (lv_sub hl [2, 3, 4, 1, 0] rfl)
        · replace hf := ifp c145 hf
          refine lv_iload hx hb dX0_take_74 (lv_at hl 0 rfl) ?_
          refine lv_bipush (v := (7 : Int32)) hx hb dX0_take_76 (by decide) ?_
          refine lv_iand hx hb dX0_take_78 ?_
          refine lv_goto (tgt := 83) hx hb dX0_take_79 (by decide) ?_
          obtain rfl := inj1 hf
          exact J97 _ _ hP hD hS _ (lv_sub hl [2, 3, 4, 1, 0] rfl)
  obtain ⟨y72, y73, y74, y75, hg, hf⟩ := bd4_some hf
  refine L146 FU _ _ _ _ _ _ _ _ _ hg ?_ _ _ hP hD hS _ (lv_sub hl [1, 2, 0] rfl)
  · intro H locs hP hD hS ls hl
    obtain ⟨rfl, rfl, rfl, rfl, rfl⟩ := inj5 hf
    subst hQ
    exact CM_vret hx hb hr hlocks hAe hP hD hS dX0_take_192
def rmX0_moveByCuts : Room := { frames := 0, cells := 0, slots := 0, locals := 0 }
abbrev wqX0_moveByCuts : List Cond := Cond.code yX0_moveByCuts cX0_moveByCuts 6 (some .boolean) :: tG
set_option maxHeartbeats 4000000 in
set_option maxRecDepth 100000 in
theorem c_X0_moveByCuts (l : Launch) (dC : Nat → ClassId) (dI : Nat → Nat → Nat) (cI cZ : ClassId) (te : Nat → Nat) (h_t : Nat) (h_t_least : Nat) (h_t_greatest : Nat) (h_t_leastBefore : Nat) (h_t_greatestBefore : Nat) (h_t_ridgeOf : Nat) (h_t_olderOf : Nat) (h_t_lowOf : Nat) (h_t_highOf : Nat) (h_t_cutsBetween : Nat) (h_t_soughtFor : Nat) (t_taken : Int32) (t_soughtSlow : Int32) (t_soughtFast : Int32) (t_lastLeftOut : Int32) (t_olderOf : Nat → Int32) (t_ridgeOf : Nat → Int32) (t_least : Nat → Int32) (t_greatest : Nat → Int32) (p1 : Int32) (o0 : Int32) (o1 : Nat → Int32) (o2 : Nat → Int32) (hf : f_X0_moveByCuts t_taken t_olderOf t_ridgeOf t_least t_greatest p1 = some (o0, o1, o2)) : CM l yX0_moveByCuts wqX0_moveByCuts rmX0_moveByCuts (kS te) dC dI cI cZ [.ref h_t, .int p1] [(h_t, .inr (0, fX0 h_t_least h_t_greatest h_t_leastBefore h_t_greatestBefore h_t_ridgeOf h_t_olderOf h_t_lowOf h_t_highOf t_taken h_t_cutsBetween h_t_soughtFor t_soughtSlow t_soughtFast t_lastLeftOut)), (h_t_olderOf, .inl (cI, 16, .inl t_olderOf)), (h_t_ridgeOf, .inl (cI, 16, .inl t_ridgeOf)), (h_t_least, .inl (cI, 8, .inl t_least)), (h_t_greatest, .inl (cI, 8, .inl t_greatest))] [(h_t, .inr (0, fX0 h_t_least h_t_greatest h_t_leastBefore h_t_greatestBefore h_t_ridgeOf h_t_olderOf h_t_lowOf h_t_highOf t_taken h_t_cutsBetween h_t_soughtFor t_soughtSlow t_soughtFast t_lastLeftOut)), (h_t_olderOf, .inl (cI, 16, .inl t_olderOf)), (h_t_ridgeOf, .inl (cI, 16, .inl t_ridgeOf)), (h_t_least, .inl (cI, 8, .inl o1)), (h_t_greatest, .inl (cI, 8, .inl o2))] (some (.int o0)) := by
  refine CM_of (cc := cX0_moveByCuts) (maxL := 6) (ret := (some .boolean)) (by decide +kernel) rfl (Nat.le_of_ble_eq_true rfl) ?_
  intro p e s m args below meth c A Q hx hb hr hml hown hts hlocks hA hK hP hD hS hE hQ hAe ls hl
  have hown : s.vm.findClass RX0 = some m.cls := hown
  have hl : lv_has ls 6 [(0, .ref h_t), (1, .int p1)] := hl
  unfold f_X0_moveByCuts at hf
  refine lv_iconst (v := (0 : Int32)) hx hb dX0_moveByCuts_0 (by decide) ?_
  refine lv_istore_n (lv' := [(2, .int (0 : Int32)), (0, .ref h_t), (1, .int p1)]) hx hb dX0_moveByCuts_1 rfl hl (by decide) rfl (fun ls hl => ?_)
  refine lv_iconst (v := (0 : Int32)) hx hb dX0_moveByCuts_2 (by decide) ?_
  refine lv_istore_n (lv' := [(3, .int (0 : Int32)), (2, .int (0 : Int32)), (0, .ref h_t), (1, .int p1)]) hx hb dX0_moveByCuts_3 rfl hl (by decide) rfl (fun ls hl => ?_)
  have L75 : ∀ (fu43 : Nat) (y38 : Nat → Int32) (y39 : Nat → Int32) (x40 : Int32) (x41 : Int32) (y35 : Nat → Int32) (y36 : Nat → Int32) (x37 : Int32), f_X0_moveByCuts_L1 t_taken t_olderOf p1 t_ridgeOf fu43 y38 y39 x40 x41 = some (y35, y36, x37) → (∀ (H : Heap) (locs : List Loc), va_P (dC, dI) vwCl [(h_t, .inr (0, fX0 h_t_least h_t_greatest h_t_leastBefore h_t_greatestBefore h_t_ridgeOf h_t_olderOf h_t_lowOf h_t_highOf t_taken h_t_cutsBetween h_t_soughtFor t_soughtSlow t_soughtFast t_lastLeftOut)), (h_t_olderOf, .inl (cI, 16, .inl t_olderOf)), (h_t_ridgeOf, .inl (cI, 16, .inl t_ridgeOf)), (h_t_least, .inl (cI, 8, .inl y36)), (h_t_greatest, .inl (cI, 8, .inl y35))] H → va_D A [(h_t, .inr (0, fX0 h_t_least h_t_greatest h_t_leastBefore h_t_greatestBefore h_t_ridgeOf h_t_olderOf h_t_lowOf h_t_highOf t_taken h_t_cutsBetween h_t_soughtFor t_soughtSlow t_soughtFast t_lastLeftOut)), (h_t_olderOf, .inl (cI, 16, .inl t_olderOf)), (h_t_ridgeOf, .inl (cI, 16, .inl t_ridgeOf)), (h_t_least, .inl (cI, 8, .inl y36)), (h_t_greatest, .inl (cI, 8, .inl y35))] → va_S A s.heap H locs → ∀ ls : Array Slot, lv_has ls 6 [(2, .int x37)] → W p l e rmX0_moveByCuts s m args below meth c H locs 0 0 Q (F0 m 118 ls [])) → ∀ (H : Heap) (locs : List Loc), va_P (dC, dI) vwCl [(h_t, .inr (0, fX0 h_t_least h_t_greatest h_t_leastBefore h_t_greatestBefore h_t_ridgeOf h_t_olderOf h_t_lowOf h_t_highOf t_taken h_t_cutsBetween h_t_soughtFor t_soughtSlow t_soughtFast t_lastLeftOut)), (h_t_olderOf, .inl (cI, 16, .inl t_olderOf)), (h_t_ridgeOf, .inl (cI, 16, .inl t_ridgeOf)), (h_t_least, .inl (cI, 8, .inl y39)), (h_t_greatest, .inl (cI, 8, .inl y38))] H → va_D A [(h_t, .inr (0, fX0 h_t_least h_t_greatest h_t_leastBefore h_t_greatestBefore h_t_ridgeOf h_t_olderOf h_t_lowOf h_t_highOf t_taken h_t_cutsBetween h_t_soughtFor t_soughtSlow t_soughtFast t_lastLeftOut)), (h_t_olderOf, .inl (cI, 16, .inl t_olderOf)), (h_t_ridgeOf, .inl (cI, 16, .inl t_ridgeOf)), (h_t_least, .inl (cI, 8, .inl y39)), (h_t_greatest, .inl (cI, 8, .inl y38))] → va_S A s.heap H locs → ∀ ls : Array Slot, lv_has ls 6 [(0, .ref h_t), (1, .int p1), (2, .int x40), (3, .int x41)] → W p l e rmX0_moveByCuts s m args below meth c H locs 0 0 Q (F0 m 4 ls []) := by
    intro fu43
    induction fu43 with
    | zero =>
      intro y38 y39 x40 x41 y35 y36 x37 hf
      unfold f_X0_moveByCuts_L1 at hf
      exact none_ne hf
    | succ fu43 ih42 =>
      intro y38 y39 x40 x41 y35 y36 x37 hf hX44 H locs hP hD hS ls hl
      unfold f_X0_moveByCuts_L1 at hf
      refine lv_iload_n hx hb dX0_moveByCuts_4 rfl (lv_at hl 3 rfl) ?_
      refine lv_aload_n hx hb dX0_moveByCuts_5 rfl (lv_at hl 0 rfl) ?_
      refine va_get (D := (dC, dI)) (ci := 0) (v := .int t_taken) (C := RX0) (T := TX0) (N := 14) hx hb hts (in1 tw_X0) hown hK hP 0 rfl rfl 8 (by decide) (hts _ (List.mem_cons_of_mem _ kw_412)) (fun _ h9 => h9) rfl dX0_moveByCuts_6 ?_
      refine lv_icmp_ge (tgt := 118) hx hb dX0_moveByCuts_9 (by decide) (fun c45 => ?_) (fun c45 => ?_)
      · replace hf := ifp c45 hf
        obtain ⟨rfl, rfl, rfl⟩ := inj3 hf
        exact hX44 _ _ hP hD hS _ (lv_sub hl [2] rfl)
      · replace hf := ifn c45 hf
        refine lv_aload_n hx hb dX0_moveByCuts_12 rfl (lv_at hl 0 rfl) ?_
        refine va_get (D := (dC, dI)) (ci := 0) (v := .ref h_t_olderOf) (C := RX0) (T := TX0) (N := 14) hx hb hts (in1 tw_X0) hown hK hP 0 rfl rfl 5 (by decide) (hts _ (List.mem_cons_of_mem _ kw_43)) (fun _ h9 => h9) rfl dX0_moveByCuts_13 ?_
        refine lv_iload_n hx hb dX0_moveByCuts_16 rfl (lv_at hl 3 rfl) ?_
        obtain ⟨g46, hf⟩ := chk_some hf
        refine va_iald hx hb hK hP 1 0 rfl rfl (gin_in g46) dX0_moveByCuts_17 ?_
        obtain ⟨x47, e48, hf⟩ := nm_some hf
        refine lv_tope e48 ?_
        refine lv_istore (lv' := [(4, .int x47), (0, .ref h_t), (1, .int p1), (2, .int x40), (3, .int x41)]) hx hb dX0_moveByCuts_18 hl (by decide) rfl (fun ls hl => ?_)
        refine lv_iload_n hx hb dX0_moveByCuts_20 rfl (lv_at hl 2 rfl) ?_
        refine lv_iload_n hx hb dX0_moveByCuts_21 rfl (lv_at hl 4 rfl) ?_
        refine lv_ishr hx hb dX0_moveByCuts_22 ?_
        refine lv_iconst (v := (1 : Int32)) hx hb dX0_moveByCuts_23 (by decide) ?_
        refine lv_iand hx hb dX0_moveByCuts_24 ?_
        refine lv_if_eq (tgt := 112) hx hb dX0_moveByCuts_25 (by decide) (fun c49 => ?_) (fun c49 => ?_)
        · replace hf := ifp c49 hf
          refine lv_iinc (v := (x41 + (1 : Int32))) (lv' := [(3, .int (x41 + (1 : Int32))), (4, .int x47), (0, .ref h_t), (1, .int p1), (2, .int x40)]) hx hb dX0_moveByCuts_112 hl (k := 4) rfl rfl (by decide) rfl (fun ls hl => ?_)
          refine lv_goto (tgt := 4) hx hb dX0_moveByCuts_115 (by decide) ?_
          exact ih42 _ _ _ _ _ _ _ hf hX44 _ _ hP hD hS _ (lv_sub hl [2, 3, 4, 0] rfl)
        · replace hf := ifn c49 hf
          refine lv_iload hx hb dX0_moveByCuts_28 (lv_at hl 0 rfl) ?_
          refine lv_iconst (v := (-1 : Int32)) hx hb dX0_moveByCuts_30 (by decide) ?_
          refine lv_icmp_eq (tgt := 112) hx hb dX0_moveByCuts_31 (by decide) (fun c50 => ?_) (fun c50 => ?_)
          · replace hf := ifp c50 hf
            refine lv_iinc (v := (x41 + (1 : Int32))) (lv' := [(3, .int (x41 + (1 : Int32))), (4, .int x47), (0, .ref h_t), (1, .int p1), (2, .int x40)]) hx hb dX0_moveByCuts_112 hl (k := 4) rfl rfl (by decide) rfl (fun ls hl => ?_)
            refine lv_goto (tgt := 4) hx hb dX0_moveByCuts_115 (by decide) ?_
            exact ih42 _ _ _ _ _ _ _ hf hX44 _ _ hP hD hS _ (lv_sub hl [2, 3, 4, 0] rfl)
          · replace hf := ifn c50 hf
            refine lv_aload_n hx hb dX0_moveByCuts_34 rfl (lv_at hl 1 rfl) ?_
            refine va_get (D := (dC, dI)) (ci := 0) (v := .ref h_t_ridgeOf) (C := RX0) (T := TX0) (N := 14) hx hb hts (in1 tw_X0) hown hK hP 0 rfl rfl 4 (by decide) (hts _ (List.mem_cons_of_mem _ kw_42)) (fun _ h9 => h9) rfl dX0_moveByCuts_35 ?_
            refine lv_iload_n hx hb dX0_moveByCuts_38 rfl (lv_at hl 4 rfl) ?_
            obtain ⟨g51, hf⟩ := chk_some hf
            refine va_iald hx hb hK hP 2 0 rfl rfl (gin_in g51) dX0_moveByCuts_39 ?_
            obtain ⟨x52, e53, hf⟩ := nm_some hf
            refine lv_tope e53 ?_
            refine lv_istore (lv' := [(5, .int x52), (4, .int x47), (0, .ref h_t), (1, .int p1), (2, .int x40), (3, .int x41)]) hx hb dX0_moveByCuts_40 hl (by decide) rfl (fun ls hl => ?_)
            refine lv_aload_n hx hb dX0_moveByCuts_42 rfl (lv_at hl 2 rfl) ?_
            refine va_get (D := (dC, dI)) (ci := 0) (v := .ref h_t_least) (C := RX0) (T := TX0) (N := 14) hx hb hts (in1 tw_X0) hown hK hP 0 rfl rfl 0 (by decide) (hts _ (List.mem_cons_of_mem _ kw_38)) (fun _ h9 => h9) rfl dX0_moveByCuts_43 ?_
            refine lv_iload hx hb dX0_moveByCuts_46 (lv_at hl 1 rfl) ?_
            obtain ⟨g54, hf⟩ := chk_some hf
            refine va_iald hx hb hK hP 3 0 rfl rfl (gin_in g54) dX0_moveByCuts_48 ?_
            refine lv_aload_n hx hb dX0_moveByCuts_49 rfl (lv_at hl 2 rfl) ?_
            refine va_get (D := (dC, dI)) (ci := 0) (v := .ref h_t_least) (C := RX0) (T := TX0) (N := 14) hx hb hts (in1 tw_X0) hown hK hP 0 rfl rfl 0 (by decide) (hts _ (List.mem_cons_of_mem _ kw_38)) (fun _ h9 => h9) rfl dX0_moveByCuts_50 ?_
            refine lv_iload hx hb dX0_moveByCuts_53 (lv_at hl 0 rfl) ?_
            obtain ⟨g55, hf⟩ := chk_some hf
            refine va_iald hx hb hK hP 3 0 rfl rfl (gin_in g55) dX0_moveByCuts_55 ?_
            obtain ⟨y56, x57, hg, hf⟩ := bd2_some hf
            have J58 : ∀ (H : Heap) (locs : List Loc), va_P (dC, dI) vwCl [(h_t, .inr (0, fX0 h_t_least h_t_greatest h_t_leastBefore h_t_greatestBefore h_t_ridgeOf h_t_olderOf h_t_lowOf h_t_highOf t_taken h_t_cutsBetween h_t_soughtFor t_soughtSlow t_soughtFast t_lastLeftOut)), (h_t_olderOf, .inl (cI, 16, .inl t_olderOf)), (h_t_ridgeOf, .inl (cI, 16, .inl t_ridgeOf)), (h_t_least, .inl (cI, 8, .inl y56)), (h_t_greatest, .inl (cI, 8, .inl y38))] H → va_D A [(h_t, .inr (0, fX0 h_t_least h_t_greatest h_t_leastBefore h_t_greatestBefore h_t_ridgeOf h_t_olderOf h_t_lowOf h_t_highOf t_taken h_t_cutsBetween h_t_soughtFor t_soughtSlow t_soughtFast t_lastLeftOut)), (h_t_olderOf, .inl (cI, 16, .inl t_olderOf)), (h_t_ridgeOf, .inl (cI, 16, .inl t_ridgeOf)), (h_t_least, .inl (cI, 8, .inl y56)), (h_t_greatest, .inl (cI, 8, .inl y38))] → va_S A s.heap H locs → ∀ ls : Array Slot, lv_has ls 6 [(0, .ref h_t), (1, .int p1), (2, .int x57), (3, .int x41), (4, .int x47), (5, .int x52)] → W p l e rmX0_moveByCuts s m args below meth c H locs 0 0 Q (F0 m 77 ls []) := by
              intro H locs hP hD hS ls hl
              refine lv_aload_n hx hb dX0_moveByCuts_77 rfl (lv_at hl 0 rfl) ?_
              refine va_get (D := (dC, dI)) (ci := 0) (v := .ref h_t_greatest) (C := RX0) (T := TX0) (N := 14) hx hb hts (in1 tw_X0) hown hK hP 0 rfl rfl 1 (by decide) (hts _ (List.mem_cons_of_mem _ kw_39)) (fun _ h9 => h9) rfl dX0_moveByCuts_78 ?_
              refine lv_iload hx hb dX0_moveByCuts_81 (lv_at hl 5 rfl) ?_
              obtain ⟨g59, hf⟩ := chk_some hf
              refine va_iald hx hb hK hP 4 0 rfl rfl (gin_in g59) dX0_moveByCuts_83 ?_
              refine lv_aload_n hx hb dX0_moveByCuts_84 rfl (lv_at hl 0 rfl) ?_
              refine va_get (D := (dC, dI)) (ci := 0) (v := .ref h_t_greatest) (C := RX0) (T := TX0) (N := 14) hx hb hts (in1 tw_X0) hown hK hP 0 rfl rfl 1 (by decide) (hts _ (List.mem_cons_of_mem _ kw_39)) (fun _ h9 => h9) rfl dX0_moveByCuts_85 ?_
              refine lv_iload hx hb dX0_moveByCuts_88 (lv_at hl 4 rfl) ?_
              obtain ⟨g60, hf⟩ := chk_some hf
              refine va_iald hx hb hK hP 4 0 rfl rfl (gin_in g60) dX0_moveByCuts_90 ?_
              refine lv_icmp_lt (tgt := 112) hx hb dX0_moveByCuts_91 (by decide) (fun c61 => ?_) (fun c61 => ?_)
              · replace hf := ifp c61 hf
                refine lv_iinc (v := (x41 + (1 : Int32))) (lv' := [(3, .int (x41 + (1 : Int32))), (0, .ref h_t), (1, .int p1), (2, .int x57), (4, .int x47), (5, .int x52)]) hx hb dX0_moveByCuts_112 hl (k := 3) rfl rfl (by decide) rfl (fun ls hl => ?_)
                refine lv_goto (tgt := 4) hx hb dX0_moveByCuts_115 (by decide) ?_
                exact ih42 _ _ _ _ _ _ _ hf hX44 _ _ hP hD hS _ (lv_sub hl [1, 2, 3, 0] rfl)
              · replace hf := ifn c61 hf
                refine lv_aload_n hx hb dX0_moveByCuts_94 rfl (lv_at hl 0 rfl) ?_
                refine va_get (D := (dC, dI)) (ci := 0) (v := .ref h_t_greatest) (C := RX0) (T := TX0) (N := 14) hx hb hts (in1 tw_X0) hown hK hP 0 rfl rfl 1 (by decide) (hts _ (List.mem_cons_of_mem _ kw_39)) (fun _ h9 => h9) rfl dX0_moveByCuts_95 ?_
                refine lv_iload hx hb dX0_moveByCuts_98 (lv_at hl 5 rfl) ?_
                refine lv_aload_n hx hb dX0_moveByCuts_100 rfl (lv_at hl 0 rfl) ?_
                refine va_get (D := (dC, dI)) (ci := 0) (v := .ref h_t_greatest) (C := RX0) (T := TX0) (N := 14) hx hb hts (in1 tw_X0) hown hK hP 0 rfl rfl 1 (by decide) (hts _ (List.mem_cons_of_mem _ kw_39)) (fun _ h9 => h9) rfl dX0_moveByCuts_101 ?_
                refine lv_iload hx hb dX0_moveByCuts_104 (lv_at hl 4 rfl) ?_
                obtain ⟨g62, hf⟩ := chk_some hf
                refine va_iald hx hb hK hP 4 0 rfl rfl (gin_in g62) dX0_moveByCuts_106 ?_
                refine lv_iconst (v := (1 : Int32)) hx hb dX0_moveByCuts_107 (by decide) ?_
                refine lv_isub hx hb dX0_moveByCuts_108 ?_
                obtain ⟨x63, e64, hf⟩ := nm_some hf
                refine lv_tope e64 ?_
                obtain ⟨g65, hf⟩ := chk_some hf
                obtain ⟨y66, e67, hf⟩ := nm_some hf
                refine va_iast hx hb hK hP hD hS 4 0 rfl rfl (gin_in g65) dX0_moveByCuts_109 (fun H locs hP hD hS => ?_)
                have hP : va_P (dC, dI) vwCl [(h_t, .inr (0, fX0 h_t_least h_t_greatest h_t_leastBefore h_t_greatestBefore h_t_ridgeOf h_t_olderOf h_t_lowOf h_t_highOf t_taken h_t_cutsBetween h_t_soughtFor t_soughtSlow t_soughtFast t_lastLeftOut)), (h_t_olderOf, .inl (cI, 16, .inl t_olderOf)), (h_t_ridgeOf, .inl (cI, 16, .inl t_ridgeOf)), (h_t_least, .inl (cI, 8, .inl y56)), (h_t_greatest, .inl (cI, 8, .inl y66))] H := by rw [e67]; exact hP
                have hD : va_D A [(h_t, .inr (0, fX0 h_t_least h_t_greatest h_t_leastBefore h_t_greatestBefore h_t_ridgeOf h_t_olderOf h_t_lowOf h_t_highOf t_taken h_t_cutsBetween h_t_soughtFor t_soughtSlow t_soughtFast t_lastLeftOut)), (h_t_olderOf, .inl (cI, 16, .inl t_olderOf)), (h_t_ridgeOf, .inl (cI, 16, .inl t_ridgeOf)), (h_t_least, .inl (cI, 8, .inl y56)), (h_t_greatest, .inl (cI, 8, .inl y66))] := by rw [e67]; exact hD
                refine lv_iconst (v := (1 : Int32)) hx hb dX0_moveByCuts_110 (by decide) ?_
                refine lv_istore_n (lv' := [(2, .int (1 : Int32)), (0, .ref h_t), (1, .int p1), (3, .int x41), (4, .int x47), (5, .int x52)]) hx hb dX0_moveByCuts_111 rfl hl (by decide) rfl (fun ls hl => ?_)
                refine lv_iinc (v := (x41 + (1 : Int32))) (lv' := [(3, .int (x41 + (1 : Int32))), (2, .int (1 : Int32)), (0, .ref h_t), (1, .int p1), (4, .int x47), (5, .int x52)]) hx hb dX0_moveByCuts_112 hl (k := 3) rfl rfl (by decide) rfl (fun ls hl => ?_)
                refine lv_goto (tgt := 4) hx hb dX0_moveByCuts_115 (by decide) ?_
                exact ih42 _ _ _ _ _ _ _ hf hX44 _ _ hP hD hS _ (lv_sub hl [2, 3, 1, 0] rfl)
            clear hf
            have hf := hg
            refine lv_icmp_gt (tgt := 77) hx hb dX0_moveByCuts_56 (by decide) (fun c68 => ?_) (fun c68 => ?_)
            · replace hf := ifp c68 hf
              obtain ⟨rfl, rfl⟩ := inj2 hf
              exact J58 _ _ hP hD hS _ (lv_sub hl [2, 3, 4, 5, 1, 0] rfl)
            · replace hf := ifn c68 hf
              refine lv_aload_n hx hb dX0_moveByCuts_59 rfl (lv_at hl 2 rfl) ?_
              refine va_get (D := (dC, dI)) (ci := 0) (v := .ref h_t_least) (C := RX0) (T := TX0) (N := 14) hx hb hts (in1 tw_X0) hown hK hP 0 rfl rfl 0 (by decide) (hts _ (List.mem_cons_of_mem _ kw_38)) (fun _ h9 => h9) rfl dX0_moveByCuts_60 ?_
              refine lv_iload hx hb dX0_moveByCuts_63 (lv_at hl 1 rfl) ?_
              refine lv_aload_n hx hb dX0_moveByCuts_65 rfl (lv_at hl 2 rfl) ?_
              refine va_get (D := (dC, dI)) (ci := 0) (v := .ref h_t_least) (C := RX0) (T := TX0) (N := 14) hx hb hts (in1 tw_X0) hown hK hP 0 rfl rfl 0 (by decide) (hts _ (List.mem_cons_of_mem _ kw_38)) (fun _ h9 => h9) rfl dX0_moveByCuts_66 ?_
              refine lv_iload hx hb dX0_moveByCuts_69 (lv_at hl 0 rfl) ?_
              obtain ⟨g69, hf⟩ := chk_some hf
              refine va_iald hx hb hK hP 3 0 rfl rfl (gin_in g69) dX0_moveByCuts_71 ?_
              refine lv_iconst (v := (1 : Int32)) hx hb dX0_moveByCuts_72 (by decide) ?_
              refine lv_iadd hx hb dX0_moveByCuts_73 ?_
              obtain ⟨x70, e71, hf⟩ := nm_some hf
              refine lv_tope e71 ?_
              obtain ⟨g72, hf⟩ := chk_some hf
              obtain ⟨y73, e74, hf⟩ := nm_some hf
              refine va_iast hx hb hK hP hD hS 3 0 rfl rfl (gin_in g72) dX0_moveByCuts_74 (fun H locs hP hD hS => ?_)
              have hP : va_P (dC, dI) vwCl [(h_t, .inr (0, fX0 h_t_least h_t_greatest h_t_leastBefore h_t_greatestBefore h_t_ridgeOf h_t_olderOf h_t_lowOf h_t_highOf t_taken h_t_cutsBetween h_t_soughtFor t_soughtSlow t_soughtFast t_lastLeftOut)), (h_t_olderOf, .inl (cI, 16, .inl t_olderOf)), (h_t_ridgeOf, .inl (cI, 16, .inl t_ridgeOf)), (h_t_least, .inl (cI, 8, .inl y73)), (h_t_greatest, .inl (cI, 8, .inl y38))] H := by rw [e74]; exact hP
              have hD : va_D A [(h_t, .inr (0, fX0 h_t_least h_t_greatest h_t_leastBefore h_t_greatestBefore h_t_ridgeOf h_t_olderOf h_t_lowOf h_t_highOf t_taken h_t_cutsBetween h_t_soughtFor t_soughtSlow t_soughtFast t_lastLeftOut)), (h_t_olderOf, .inl (cI, 16, .inl t_olderOf)), (h_t_ridgeOf, .inl (cI, 16, .inl t_ridgeOf)), (h_t_least, .inl (cI, 8, .inl y73)), (h_t_greatest, .inl (cI, 8, .inl y38))] := by rw [e74]; exact hD
              refine lv_iconst (v := (1 : Int32)) hx hb dX0_moveByCuts_75 (by decide) ?_
              refine lv_istore_n (lv' := [(2, .int (1 : Int32)), (5, .int x52), (4, .int x47), (0, .ref h_t), (1, .int p1), (3, .int x41)]) hx hb dX0_moveByCuts_76 rfl hl (by decide) rfl (fun ls hl => ?_)
              obtain ⟨rfl, rfl⟩ := inj2 hf
              exact J58 _ _ hP hD hS _ (lv_sub hl [3, 4, 0, 5, 2, 1] rfl)
  obtain ⟨y35, y36, x37, hg, hf⟩ := bd3_some hf
  refine L75 FU _ _ _ _ _ _ _ hg ?_ _ _ hP hD hS _ (lv_sub hl [2, 3, 1, 0] rfl)
  · intro H locs hP hD hS ls hl
    refine lv_iload_n hx hb dX0_moveByCuts_118 rfl (lv_at hl 0 rfl) ?_
    obtain ⟨g76, hf⟩ := chk_some hf
    obtain ⟨rfl, rfl, rfl⟩ := inj3 hf
    subst hQ
    exact CM_iret hx hb hr (gz_n g76) hlocks hAe hP hD hS dX0_moveByCuts_119
def rmX0_haveAllAges : Room := { frames := 0, cells := 0, slots := 0, locals := 0 }
abbrev wqX0_haveAllAges : List Cond := Cond.code yX0_haveAllAges cX0_haveAllAges 2 (some .boolean) :: tG
set_option maxHeartbeats 4000000 in
set_option maxRecDepth 100000 in
theorem c_X0_haveAllAges (l : Launch) (dC : Nat → ClassId) (dI : Nat → Nat → Nat) (cI cZ : ClassId) (te : Nat → Nat) (h_t : Nat) (h_t_least : Nat) (h_t_greatest : Nat) (h_t_leastBefore : Nat) (h_t_greatestBefore : Nat) (h_t_ridgeOf : Nat) (h_t_olderOf : Nat) (h_t_lowOf : Nat) (h_t_highOf : Nat) (h_t_cutsBetween : Nat) (h_t_soughtFor : Nat) (t_taken : Int32) (t_soughtSlow : Int32) (t_soughtFast : Int32) (t_lastLeftOut : Int32) (t_least : Nat → Int32) (t_greatest : Nat → Int32) (o0 : Int32) (hf : f_X0_haveAllAges t_least t_greatest = some o0) : CM l yX0_haveAllAges wqX0_haveAllAges rmX0_haveAllAges (kS te) dC dI cI cZ [.ref h_t] [(h_t, .inr (0, fX0 h_t_least h_t_greatest h_t_leastBefore h_t_greatestBefore h_t_ridgeOf h_t_olderOf h_t_lowOf h_t_highOf t_taken h_t_cutsBetween h_t_soughtFor t_soughtSlow t_soughtFast t_lastLeftOut)), (h_t_least, .inl (cI, 8, .inl t_least)), (h_t_greatest, .inl (cI, 8, .inl t_greatest))] [(h_t, .inr (0, fX0 h_t_least h_t_greatest h_t_leastBefore h_t_greatestBefore h_t_ridgeOf h_t_olderOf h_t_lowOf h_t_highOf t_taken h_t_cutsBetween h_t_soughtFor t_soughtSlow t_soughtFast t_lastLeftOut)), (h_t_least, .inl (cI, 8, .inl t_least)), (h_t_greatest, .inl (cI, 8, .inl t_greatest))] (some (.int o0)) := by
  refine CM_of (cc := cX0_haveAllAges) (maxL := 2) (ret := (some .boolean)) (by decide +kernel) rfl (Nat.le_of_ble_eq_true rfl) ?_
  intro p e s m args below meth c A Q hx hb hr hml hown hts hlocks hA hK hP hD hS hE hQ hAe ls hl
  have hown : s.vm.findClass RX0 = some m.cls := hown
  have hl : lv_has ls 2 [(0, .ref h_t)] := hl
  unfold f_X0_haveAllAges at hf
  refine lv_iconst (v := (0 : Int32)) hx hb dX0_haveAllAges_0 (by decide) ?_
  refine lv_istore_n (lv' := [(1, .int (0 : Int32)), (0, .ref h_t)]) hx hb dX0_haveAllAges_1 rfl hl (by decide) rfl (fun ls hl => ?_)
  have L16 : ∀ (fu9 : Nat) (x7 : Int32) (q6 : Nat), f_X0_haveAllAges_L1 t_least t_greatest fu9 x7 = some q6 → (q6 = 0 → ∀ (H : Heap) (locs : List Loc), va_P (dC, dI) vwCl [(h_t, .inr (0, fX0 h_t_least h_t_greatest h_t_leastBefore h_t_greatestBefore h_t_ridgeOf h_t_olderOf h_t_lowOf h_t_highOf t_taken h_t_cutsBetween h_t_soughtFor t_soughtSlow t_soughtFast t_lastLeftOut)), (h_t_least, .inl (cI, 8, .inl t_least)), (h_t_greatest, .inl (cI, 8, .inl t_greatest))] H → va_D A [(h_t, .inr (0, fX0 h_t_least h_t_greatest h_t_leastBefore h_t_greatestBefore h_t_ridgeOf h_t_olderOf h_t_lowOf h_t_highOf t_taken h_t_cutsBetween h_t_soughtFor t_soughtSlow t_soughtFast t_lastLeftOut)), (h_t_least, .inl (cI, 8, .inl t_least)), (h_t_greatest, .inl (cI, 8, .inl t_greatest))] → va_S A s.heap H locs → ∀ ls : Array Slot, lv_has ls 2 [] → W p l e rmX0_haveAllAges s m args below meth c H locs 0 0 Q (F0 m 23 ls [])) → (q6 = 1 → ∀ (H : Heap) (locs : List Loc), va_P (dC, dI) vwCl [(h_t, .inr (0, fX0 h_t_least h_t_greatest h_t_leastBefore h_t_greatestBefore h_t_ridgeOf h_t_olderOf h_t_lowOf h_t_highOf t_taken h_t_cutsBetween h_t_soughtFor t_soughtSlow t_soughtFast t_lastLeftOut)), (h_t_least, .inl (cI, 8, .inl t_least)), (h_t_greatest, .inl (cI, 8, .inl t_greatest))] H → va_D A [(h_t, .inr (0, fX0 h_t_least h_t_greatest h_t_leastBefore h_t_greatestBefore h_t_ridgeOf h_t_olderOf h_t_lowOf h_t_highOf t_taken h_t_cutsBetween h_t_soughtFor t_soughtSlow t_soughtFast t_lastLeftOut)), (h_t_least, .inl (cI, 8, .inl t_least)), (h_t_greatest, .inl (cI, 8, .inl t_greatest))] → va_S A s.heap H locs → ∀ ls : Array Slot, lv_has ls 2 [] → W p l e rmX0_haveAllAges s m args below meth c H locs 0 0 Q (F0 m 31 ls [])) → ∀ (H : Heap) (locs : List Loc), va_P (dC, dI) vwCl [(h_t, .inr (0, fX0 h_t_least h_t_greatest h_t_leastBefore h_t_greatestBefore h_t_ridgeOf h_t_olderOf h_t_lowOf h_t_highOf t_taken h_t_cutsBetween h_t_soughtFor t_soughtSlow t_soughtFast t_lastLeftOut)), (h_t_least, .inl (cI, 8, .inl t_least)), (h_t_greatest, .inl (cI, 8, .inl t_greatest))] H → va_D A [(h_t, .inr (0, fX0 h_t_least h_t_greatest h_t_leastBefore h_t_greatestBefore h_t_ridgeOf h_t_olderOf h_t_lowOf h_t_highOf t_taken h_t_cutsBetween h_t_soughtFor t_soughtSlow t_soughtFast t_lastLeftOut)), (h_t_least, .inl (cI, 8, .inl t_least)), (h_t_greatest, .inl (cI, 8, .inl t_greatest))] → va_S A s.heap H locs → ∀ ls : Array Slot, lv_has ls 2 [(0, .ref h_t), (1, .int x7)] → W p l e rmX0_haveAllAges s m args below meth c H locs 0 0 Q (F0 m 2 ls []) := by
    intro fu9
    induction fu9 with
    | zero =>
      intro x7 q6 hf
      unfold f_X0_haveAllAges_L1 at hf
      exact none_ne hf
    | succ fu9 ih8 =>
      intro x7 q6 hf hX10 hX11 H locs hP hD hS ls hl
      unfold f_X0_haveAllAges_L1 at hf
      refine lv_iload_n hx hb dX0_haveAllAges_2 rfl (lv_at hl 1 rfl) ?_
      refine lv_bipush (v := (8 : Int32)) hx hb dX0_haveAllAges_3 (by decide) ?_
      refine lv_icmp_ge (tgt := 31) hx hb dX0_haveAllAges_5 (by decide) (fun c12 => ?_) (fun c12 => ?_)
      · replace hf := ifp c12 hf
        obtain rfl := inj1 hf
        exact hX11 rfl _ _ hP hD hS _ (lv_sub hl [] rfl)
      · replace hf := ifn c12 hf
        refine lv_aload_n hx hb dX0_haveAllAges_8 rfl (lv_at hl 0 rfl) ?_
        refine va_get (D := (dC, dI)) (ci := 0) (v := .ref h_t_least) (C := RX0) (T := TX0) (N := 14) hx hb hts (in1 tw_X0) hown hK hP 0 rfl rfl 0 (by decide) (hts _ (List.mem_cons_of_mem _ kw_38)) (fun _ h9 => h9) rfl dX0_haveAllAges_9 ?_
        refine lv_iload_n hx hb dX0_haveAllAges_12 rfl (lv_at hl 1 rfl) ?_
        obtain ⟨g13, hf⟩ := chk_some hf
        refine va_iald hx hb hK hP 1 0 rfl rfl (gin_in g13) dX0_haveAllAges_13 ?_
        refine lv_aload_n hx hb dX0_haveAllAges_14 rfl (lv_at hl 0 rfl) ?_
        refine va_get (D := (dC, dI)) (ci := 0) (v := .ref h_t_greatest) (C := RX0) (T := TX0) (N := 14) hx hb hts (in1 tw_X0) hown hK hP 0 rfl rfl 1 (by decide) (hts _ (List.mem_cons_of_mem _ kw_39)) (fun _ h9 => h9) rfl dX0_haveAllAges_15 ?_
        refine lv_iload_n hx hb dX0_haveAllAges_18 rfl (lv_at hl 1 rfl) ?_
        obtain ⟨g14, hf⟩ := chk_some hf
        refine va_iald hx hb hK hP 2 0 rfl rfl (gin_in g14) dX0_haveAllAges_19 ?_
        refine lv_icmp_le (tgt := 25) hx hb dX0_haveAllAges_20 (by decide) (fun c15 => ?_) (fun c15 => ?_)
        · replace hf := ifp c15 hf
          refine lv_iinc (v := (x7 + (1 : Int32))) (lv' := [(1, .int (x7 + (1 : Int32))), (0, .ref h_t)]) hx hb dX0_haveAllAges_25 hl (k := 1) rfl rfl (by decide) rfl (fun ls hl => ?_)
          refine lv_goto (tgt := 2) hx hb dX0_haveAllAges_28 (by decide) ?_
          exact ih8 _ _ hf hX10 hX11 _ _ hP hD hS _ (lv_sub hl [1, 0] rfl)
        · replace hf := ifn c15 hf
          obtain rfl := inj1 hf
          exact hX10 rfl _ _ hP hD hS _ (lv_sub hl [] rfl)
  obtain ⟨q6, hg, hf⟩ := bd1_some hf
  refine L16 FU _ _ hg ?_ ?_ _ _ hP hD hS _ (lv_sub hl [1, 0] rfl)
  · intro hq
    subst hq
    replace hf := ifp rfl hf
    intro H locs hP hD hS ls hl
    refine lv_iconst (v := (0 : Int32)) hx hb dX0_haveAllAges_23 (by decide) ?_
    obtain rfl := inj1 hf
    subst hQ
    exact CM_iret hx hb hr rfl hlocks hAe hP hD hS dX0_haveAllAges_24
  · intro hq
    subst hq
    replace hf := ifn (by decide) hf
    intro H locs hP hD hS ls hl
    refine lv_iconst (v := (1 : Int32)) hx hb dX0_haveAllAges_31 (by decide) ?_
    obtain rfl := inj1 hf
    subst hQ
    exact CM_iret hx hb hr rfl hlocks hAe hP hD hS dX0_haveAllAges_32
def rmX0_join : Room := { frames := 1, cells := 0, slots := 0, locals := 25 }
abbrev wqX0_join : List Cond := Cond.code yX0_join cX0_join 4 (some .boolean) :: tG
set_option maxHeartbeats 4000000 in
set_option maxRecDepth 100000 in
theorem c_X0_join (l : Launch) (dC : Nat → ClassId) (dI : Nat → Nat → Nat) (cI cZ : ClassId) (te : Nat → Nat) (h_t : Nat) (h_t_least : Nat) (h_t_greatest : Nat) (h_t_leastBefore : Nat) (h_t_greatestBefore : Nat) (h_t_ridgeOf : Nat) (h_t_olderOf : Nat) (h_t_lowOf : Nat) (h_t_highOf : Nat) (h_t_cutsBetween : Nat) (h_t_soughtFor : Nat) (t_taken : Int32) (t_soughtSlow : Int32) (t_soughtFast : Int32) (t_lastLeftOut : Int32) (t_least : Nat → Int32) (t_greatest : Nat → Int32) (t_ridgeOf : Nat → Int32) (t_lowOf : Nat → Int32) (t_highOf : Nat → Int32) (t_olderOf : Nat → Int32) (p1 : Int32) (o0 : Int32) (o1 : Nat → Int32) (o2 : Nat → Int32) (hf : f_X0_join t_taken t_least t_greatest t_ridgeOf t_lowOf t_highOf t_olderOf p1 = some (o0, o1, o2)) : CM l yX0_join wqX0_join rmX0_join (kS te) dC dI cI cZ [.ref h_t, .int p1] [(h_t, .inr (0, fX0 h_t_least h_t_greatest h_t_leastBefore h_t_greatestBefore h_t_ridgeOf h_t_olderOf h_t_lowOf h_t_highOf t_taken h_t_cutsBetween h_t_soughtFor t_soughtSlow t_soughtFast t_lastLeftOut)), (h_t_least, .inl (cI, 8, .inl t_least)), (h_t_greatest, .inl (cI, 8, .inl t_greatest)), (h_t_ridgeOf, .inl (cI, 16, .inl t_ridgeOf)), (h_t_lowOf, .inl (cI, 16, .inl t_lowOf)), (h_t_highOf, .inl (cI, 16, .inl t_highOf)), (h_t_olderOf, .inl (cI, 16, .inl t_olderOf))] [(h_t, .inr (0, fX0 h_t_least h_t_greatest h_t_leastBefore h_t_greatestBefore h_t_ridgeOf h_t_olderOf h_t_lowOf h_t_highOf t_taken h_t_cutsBetween h_t_soughtFor t_soughtSlow t_soughtFast t_lastLeftOut)), (h_t_least, .inl (cI, 8, .inl o1)), (h_t_greatest, .inl (cI, 8, .inl o2)), (h_t_ridgeOf, .inl (cI, 16, .inl t_ridgeOf)), (h_t_lowOf, .inl (cI, 16, .inl t_lowOf)), (h_t_highOf, .inl (cI, 16, .inl t_highOf)), (h_t_olderOf, .inl (cI, 16, .inl t_olderOf))] (some (.int o0)) := by
  refine CM_of (cc := cX0_join) (maxL := 4) (ret := (some .boolean)) (by decide +kernel) rfl (Nat.le_of_ble_eq_true rfl) ?_
  intro p e s m args below meth c A Q hx hb hr hml hown hts hlocks hA hK hP hD hS hE hQ hAe ls hl
  have hown : s.vm.findClass RX0 = some m.cls := hown
  have hl : lv_has ls 4 [(0, .ref h_t), (1, .int p1)] := hl
  unfold f_X0_join at hf
  refine lv_aload_n hx hb dX0_join_0 rfl (lv_at hl 0 rfl) ?_
  refine va_get (D := (dC, dI)) (ci := 0) (v := .ref h_t_least) (C := RX0) (T := TX0) (N := 14) hx hb hts (in1 tw_X0) hown hK hP 0 rfl rfl 0 (by decide) (hts _ (List.mem_cons_of_mem _ kw_38)) (fun _ h9 => h9) rfl dX0_join_1 ?_
  refine lv_iconst (v := (0 : Int32)) hx hb dX0_join_4 (by decide) ?_
  obtain ⟨y1, hg2, hf⟩ := bd1_some hf
  refine CM_callS (As := [.ref h_t_least, .int (0 : Int32)]) (rest := []) (wc := [(h_t_least, .inl (cI, 8, .inl t_least))]) (w1 := [(h_t_least, .inl (cI, 8, .inl y1))]) (wr := [(h_t, .inr (0, fX0 h_t_least h_t_greatest h_t_leastBefore h_t_greatestBefore h_t_ridgeOf h_t_olderOf h_t_lowOf h_t_highOf t_taken h_t_cutsBetween h_t_soughtFor t_soughtSlow t_soughtFast t_lastLeftOut)), (h_t_greatest, .inl (cI, 8, .inl t_greatest)), (h_t_ridgeOf, .inl (cI, 16, .inl t_ridgeOf)), (h_t_lowOf, .inl (cI, 16, .inl t_lowOf)), (h_t_highOf, .inl (cI, 16, .inl t_highOf)), (h_t_olderOf, .inl (cI, 16, .inl t_olderOf))]) (wo := [(h_t, .inr (0, fX0 h_t_least h_t_greatest h_t_leastBefore h_t_greatestBefore h_t_ridgeOf h_t_olderOf h_t_lowOf h_t_highOf t_taken h_t_cutsBetween h_t_soughtFor t_soughtSlow t_soughtFast t_lastLeftOut)), (h_t_least, .inl (cI, 8, .inl y1)), (h_t_greatest, .inl (cI, 8, .inl t_greatest)), (h_t_ridgeOf, .inl (cI, 16, .inl t_ridgeOf)), (h_t_lowOf, .inl (cI, 16, .inl t_lowOf)), (h_t_highOf, .inl (cI, 16, .inl t_highOf)), (h_t_olderOf, .inl (cI, 16, .inl t_olderOf))]) (v := (none)) ⟨hx, hb, hml, hown, hts⟩ (c_J7_fill_53178 l dC dI cI cZ te h_t_least (8) t_least (0 : Int32) y1 hg2) (va_cwS 2 hts (gS kw_418 kw_419 kw_420 kw_421) rfl rfl rfl (by decide +kernel) ⟨Nat.le_of_ble_eq_true rfl, Nat.le_of_ble_eq_true rfl⟩) (kS_env te) hK hP hD hS hA hE [1] [0, 2, 3, 4, 5, 6] [0, 6, 1, 2, 3, 4, 5] rfl rfl (by decide) (by decide) (by decide) (by decide) rfl rfl hl.1 rfl (Nat.le_of_ble_eq_true rfl) dX0_join_5 ⟨Nat.zero_le _, Nat.zero_le _⟩ (fun H locs hP hD hS => ?_)
  show W p l e rmX0_join s m args below meth c H locs 0 0 Q (F0 m 8 ls [])
  refine lv_aload_n hx hb dX0_join_8 rfl (lv_at hl 0 rfl) ?_
  refine va_get (D := (dC, dI)) (ci := 0) (v := .ref h_t_greatest) (C := RX0) (T := TX0) (N := 14) hx hb hts (in1 tw_X0) hown hK hP 0 rfl rfl 1 (by decide) (hts _ (List.mem_cons_of_mem _ kw_39)) (fun _ h9 => h9) rfl dX0_join_9 ?_
  refine lv_sipush (v := (999 : Int32)) hx hb dX0_join_12 (by decide) ?_
  obtain ⟨y3, hg4, hf⟩ := bd1_some hf
  refine CM_callS (As := [.ref h_t_greatest, .int (999 : Int32)]) (rest := []) (wc := [(h_t_greatest, .inl (cI, 8, .inl t_greatest))]) (w1 := [(h_t_greatest, .inl (cI, 8, .inl y3))]) (wr := [(h_t, .inr (0, fX0 h_t_least h_t_greatest h_t_leastBefore h_t_greatestBefore h_t_ridgeOf h_t_olderOf h_t_lowOf h_t_highOf t_taken h_t_cutsBetween h_t_soughtFor t_soughtSlow t_soughtFast t_lastLeftOut)), (h_t_least, .inl (cI, 8, .inl y1)), (h_t_ridgeOf, .inl (cI, 16, .inl t_ridgeOf)), (h_t_lowOf, .inl (cI, 16, .inl t_lowOf)), (h_t_highOf, .inl (cI, 16, .inl t_highOf)), (h_t_olderOf, .inl (cI, 16, .inl t_olderOf))]) (wo := [(h_t, .inr (0, fX0 h_t_least h_t_greatest h_t_leastBefore h_t_greatestBefore h_t_ridgeOf h_t_olderOf h_t_lowOf h_t_highOf t_taken h_t_cutsBetween h_t_soughtFor t_soughtSlow t_soughtFast t_lastLeftOut)), (h_t_least, .inl (cI, 8, .inl y1)), (h_t_greatest, .inl (cI, 8, .inl y3)), (h_t_ridgeOf, .inl (cI, 16, .inl t_ridgeOf)), (h_t_lowOf, .inl (cI, 16, .inl t_lowOf)), (h_t_highOf, .inl (cI, 16, .inl t_highOf)), (h_t_olderOf, .inl (cI, 16, .inl t_olderOf))]) (v := (none)) ⟨hx, hb, hml, hown, hts⟩ (c_J7_fill_53178 l dC dI cI cZ te h_t_greatest (8) t_greatest (999 : Int32) y3 hg4) (va_cwS 2 hts (gS kw_418 kw_419 kw_420 kw_421) rfl rfl rfl (by decide +kernel) ⟨Nat.le_of_ble_eq_true rfl, Nat.le_of_ble_eq_true rfl⟩) (kS_env te) hK hP hD hS hA hE [2] [0, 1, 3, 4, 5, 6] [0, 1, 6, 2, 3, 4, 5] rfl rfl (by decide) (by decide) (by decide) (by decide) rfl rfl hl.1 rfl (Nat.le_of_ble_eq_true rfl) dX0_join_15 ⟨Nat.zero_le _, Nat.zero_le _⟩ (fun H locs hP hD hS => ?_)
  show W p l e rmX0_join s m args below meth c H locs 0 0 Q (F0 m 18 ls [])
  refine lv_iconst (v := (0 : Int32)) hx hb dX0_join_18 (by decide) ?_
  refine lv_istore_n (lv' := [(2, .int (0 : Int32)), (0, .ref h_t), (1, .int p1)]) hx hb dX0_join_19 rfl hl (by decide) rfl (fun ls hl => ?_)
  have L54 : ∀ (fu33 : Nat) (y29 : Nat → Int32) (y30 : Nat → Int32) (x31 : Int32) (y27 : Nat → Int32) (y28 : Nat → Int32), f_X0_join_L1 t_taken p1 t_ridgeOf t_lowOf t_highOf fu33 y29 y30 x31 = some (y27, y28) → (∀ (H : Heap) (locs : List Loc), va_P (dC, dI) vwCl [(h_t, .inr (0, fX0 h_t_least h_t_greatest h_t_leastBefore h_t_greatestBefore h_t_ridgeOf h_t_olderOf h_t_lowOf h_t_highOf t_taken h_t_cutsBetween h_t_soughtFor t_soughtSlow t_soughtFast t_lastLeftOut)), (h_t_least, .inl (cI, 8, .inl y28)), (h_t_greatest, .inl (cI, 8, .inl y27)), (h_t_ridgeOf, .inl (cI, 16, .inl t_ridgeOf)), (h_t_lowOf, .inl (cI, 16, .inl t_lowOf)), (h_t_highOf, .inl (cI, 16, .inl t_highOf)), (h_t_olderOf, .inl (cI, 16, .inl t_olderOf))] H → va_D A [(h_t, .inr (0, fX0 h_t_least h_t_greatest h_t_leastBefore h_t_greatestBefore h_t_ridgeOf h_t_olderOf h_t_lowOf h_t_highOf t_taken h_t_cutsBetween h_t_soughtFor t_soughtSlow t_soughtFast t_lastLeftOut)), (h_t_least, .inl (cI, 8, .inl y28)), (h_t_greatest, .inl (cI, 8, .inl y27)), (h_t_ridgeOf, .inl (cI, 16, .inl t_ridgeOf)), (h_t_lowOf, .inl (cI, 16, .inl t_lowOf)), (h_t_highOf, .inl (cI, 16, .inl t_highOf)), (h_t_olderOf, .inl (cI, 16, .inl t_olderOf))] → va_S A s.heap H locs → ∀ ls : Array Slot, lv_has ls 4 [(0, .ref h_t), (1, .int p1)] → W p l e rmX0_join s m args below meth c H locs 0 0 Q (F0 m 91 ls [])) → ∀ (H : Heap) (locs : List Loc), va_P (dC, dI) vwCl [(h_t, .inr (0, fX0 h_t_least h_t_greatest h_t_leastBefore h_t_greatestBefore h_t_ridgeOf h_t_olderOf h_t_lowOf h_t_highOf t_taken h_t_cutsBetween h_t_soughtFor t_soughtSlow t_soughtFast t_lastLeftOut)), (h_t_least, .inl (cI, 8, .inl y30)), (h_t_greatest, .inl (cI, 8, .inl y29)), (h_t_ridgeOf, .inl (cI, 16, .inl t_ridgeOf)), (h_t_lowOf, .inl (cI, 16, .inl t_lowOf)), (h_t_highOf, .inl (cI, 16, .inl t_highOf)), (h_t_olderOf, .inl (cI, 16, .inl t_olderOf))] H → va_D A [(h_t, .inr (0, fX0 h_t_least h_t_greatest h_t_leastBefore h_t_greatestBefore h_t_ridgeOf h_t_olderOf h_t_lowOf h_t_highOf t_taken h_t_cutsBetween h_t_soughtFor t_soughtSlow t_soughtFast t_lastLeftOut)), (h_t_least, .inl (cI, 8, .inl y30)), (h_t_greatest, .inl (cI, 8, .inl y29)), (h_t_ridgeOf, .inl (cI, 16, .inl t_ridgeOf)), (h_t_lowOf, .inl (cI, 16, .inl t_lowOf)), (h_t_highOf, .inl (cI, 16, .inl t_highOf)), (h_t_olderOf, .inl (cI, 16, .inl t_olderOf))] → va_S A s.heap H locs → ∀ ls : Array Slot, lv_has ls 4 [(0, .ref h_t), (1, .int p1), (2, .int x31)] → W p l e rmX0_join s m args below meth c H locs 0 0 Q (F0 m 20 ls []) := by
    intro fu33
    induction fu33 with
    | zero =>
      intro y29 y30 x31 y27 y28 hf
      unfold f_X0_join_L1 at hf
      exact none_ne hf
    | succ fu33 ih32 =>
      intro y29 y30 x31 y27 y28 hf hX34 H locs hP hD hS ls hl
      unfold f_X0_join_L1 at hf
      refine lv_iload_n hx hb dX0_join_20 rfl (lv_at hl 2 rfl) ?_
      refine lv_aload_n hx hb dX0_join_21 rfl (lv_at hl 0 rfl) ?_
      refine va_get (D := (dC, dI)) (ci := 0) (v := .int t_taken) (C := RX0) (T := TX0) (N := 14) hx hb hts (in1 tw_X0) hown hK hP 0 rfl rfl 8 (by decide) (hts _ (List.mem_cons_of_mem _ kw_412)) (fun _ h9 => h9) rfl dX0_join_22 ?_
      refine lv_icmp_ge (tgt := 91) hx hb dX0_join_25 (by decide) (fun c35 => ?_) (fun c35 => ?_)
      · replace hf := ifp c35 hf
        obtain ⟨rfl, rfl⟩ := inj2 hf
        exact hX34 _ _ hP hD hS _ (lv_sub hl [0, 1] rfl)
      · replace hf := ifn c35 hf
        refine lv_iload_n hx hb dX0_join_28 rfl (lv_at hl 1 rfl) ?_
        refine lv_iload_n hx hb dX0_join_29 rfl (lv_at hl 2 rfl) ?_
        refine lv_ishr hx hb dX0_join_30 ?_
        refine lv_iconst (v := (1 : Int32)) hx hb dX0_join_31 (by decide) ?_
        refine lv_iand hx hb dX0_join_32 ?_
        refine lv_if_eq (tgt := 85) hx hb dX0_join_33 (by decide) (fun c36 => ?_) (fun c36 => ?_)
        · replace hf := ifp c36 hf
          refine lv_iinc (v := (x31 + (1 : Int32))) (lv' := [(2, .int (x31 + (1 : Int32))), (0, .ref h_t), (1, .int p1)]) hx hb dX0_join_85 hl (k := 2) rfl rfl (by decide) rfl (fun ls hl => ?_)
          refine lv_goto (tgt := 20) hx hb dX0_join_88 (by decide) ?_
          exact ih32 _ _ _ _ _ hf hX34 _ _ hP hD hS _ (lv_sub hl [1, 2, 0] rfl)
        · replace hf := ifn c36 hf
          refine lv_aload_n hx hb dX0_join_36 rfl (lv_at hl 0 rfl) ?_
          refine va_get (D := (dC, dI)) (ci := 0) (v := .ref h_t_ridgeOf) (C := RX0) (T := TX0) (N := 14) hx hb hts (in1 tw_X0) hown hK hP 0 rfl rfl 4 (by decide) (hts _ (List.mem_cons_of_mem _ kw_42)) (fun _ h9 => h9) rfl dX0_join_37 ?_
          refine lv_iload_n hx hb dX0_join_40 rfl (lv_at hl 2 rfl) ?_
          obtain ⟨g37, hf⟩ := chk_some hf
          refine va_iald hx hb hK hP 3 0 rfl rfl (gin_in g37) dX0_join_41 ?_
          obtain ⟨x38, e39, hf⟩ := nm_some hf
          refine lv_tope e39 ?_
          refine lv_istore_n (lv' := [(3, .int x38), (0, .ref h_t), (1, .int p1), (2, .int x31)]) hx hb dX0_join_42 rfl hl (by decide) rfl (fun ls hl => ?_)
          refine lv_aload_n hx hb dX0_join_43 rfl (lv_at hl 1 rfl) ?_
          refine va_get (D := (dC, dI)) (ci := 0) (v := .ref h_t_least) (C := RX0) (T := TX0) (N := 14) hx hb hts (in1 tw_X0) hown hK hP 0 rfl rfl 0 (by decide) (hts _ (List.mem_cons_of_mem _ kw_38)) (fun _ h9 => h9) rfl dX0_join_44 ?_
          refine lv_iload_n hx hb dX0_join_47 rfl (lv_at hl 0 rfl) ?_
          refine lv_aload_n hx hb dX0_join_48 rfl (lv_at hl 1 rfl) ?_
          refine va_get (D := (dC, dI)) (ci := 0) (v := .ref h_t_least) (C := RX0) (T := TX0) (N := 14) hx hb hts (in1 tw_X0) hown hK hP 0 rfl rfl 0 (by decide) (hts _ (List.mem_cons_of_mem _ kw_38)) (fun _ h9 => h9) rfl dX0_join_49 ?_
          refine lv_iload_n hx hb dX0_join_52 rfl (lv_at hl 0 rfl) ?_
          obtain ⟨g40, hf⟩ := chk_some hf
          refine va_iald hx hb hK hP 1 0 rfl rfl (gin_in g40) dX0_join_53 ?_
          refine lv_aload_n hx hb dX0_join_54 rfl (lv_at hl 1 rfl) ?_
          refine va_get (D := (dC, dI)) (ci := 0) (v := .ref h_t_lowOf) (C := RX0) (T := TX0) (N := 14) hx hb hts (in1 tw_X0) hown hK hP 0 rfl rfl 6 (by decide) (hts _ (List.mem_cons_of_mem _ kw_44)) (fun _ h9 => h9) rfl dX0_join_55 ?_
          refine lv_iload_n hx hb dX0_join_58 rfl (lv_at hl 3 rfl) ?_
          obtain ⟨g41, hf⟩ := chk_some hf
          refine va_iald hx hb hK hP 4 0 rfl rfl (gin_in g41) dX0_join_59 ?_
          refine va_mmax hx hb (hml.trans hl.1.symm) hown (hts _ (List.mem_cons_of_mem _ kw_422)) (hts _ (List.mem_cons_of_mem _ kw_8)) (hts _ (List.mem_cons_of_mem _ kw_5)) (hts _ (List.mem_cons_of_mem _ kw_9)) (Nat.le_of_ble_eq_true rfl) (Nat.le_of_ble_eq_true rfl) (Nat.zero_le _) (Nat.zero_le _) dX0_join_60 ?_
          obtain ⟨x42, e43, hf⟩ := nm_some hf
          refine lv_tope e43 ?_
          obtain ⟨g44, hf⟩ := chk_some hf
          obtain ⟨y45, e46, hf⟩ := nm_some hf
          refine va_iast hx hb hK hP hD hS 1 0 rfl rfl (gin_in g44) dX0_join_63 (fun H locs hP hD hS => ?_)
          have hP : va_P (dC, dI) vwCl [(h_t, .inr (0, fX0 h_t_least h_t_greatest h_t_leastBefore h_t_greatestBefore h_t_ridgeOf h_t_olderOf h_t_lowOf h_t_highOf t_taken h_t_cutsBetween h_t_soughtFor t_soughtSlow t_soughtFast t_lastLeftOut)), (h_t_least, .inl (cI, 8, .inl y45)), (h_t_greatest, .inl (cI, 8, .inl y29)), (h_t_ridgeOf, .inl (cI, 16, .inl t_ridgeOf)), (h_t_lowOf, .inl (cI, 16, .inl t_lowOf)), (h_t_highOf, .inl (cI, 16, .inl t_highOf)), (h_t_olderOf, .inl (cI, 16, .inl t_olderOf))] H := by rw [e46]; exact hP
          have hD : va_D A [(h_t, .inr (0, fX0 h_t_least h_t_greatest h_t_leastBefore h_t_greatestBefore h_t_ridgeOf h_t_olderOf h_t_lowOf h_t_highOf t_taken h_t_cutsBetween h_t_soughtFor t_soughtSlow t_soughtFast t_lastLeftOut)), (h_t_least, .inl (cI, 8, .inl y45)), (h_t_greatest, .inl (cI, 8, .inl y29)), (h_t_ridgeOf, .inl (cI, 16, .inl t_ridgeOf)), (h_t_lowOf, .inl (cI, 16, .inl t_lowOf)), (h_t_highOf, .inl (cI, 16, .inl t_highOf)), (h_t_olderOf, .inl (cI, 16, .inl t_olderOf))] := by rw [e46]; exact hD
          refine lv_aload_n hx hb dX0_join_64 rfl (lv_at hl 1 rfl) ?_
          refine va_get (D := (dC, dI)) (ci := 0) (v := .ref h_t_greatest) (C := RX0) (T := TX0) (N := 14) hx hb hts (in1 tw_X0) hown hK hP 0 rfl rfl 1 (by decide) (hts _ (List.mem_cons_of_mem _ kw_39)) (fun _ h9 => h9) rfl dX0_join_65 ?_
          refine lv_iload_n hx hb dX0_join_68 rfl (lv_at hl 0 rfl) ?_
          refine lv_aload_n hx hb dX0_join_69 rfl (lv_at hl 1 rfl) ?_
          refine va_get (D := (dC, dI)) (ci := 0) (v := .ref h_t_greatest) (C := RX0) (T := TX0) (N := 14) hx hb hts (in1 tw_X0) hown hK hP 0 rfl rfl 1 (by decide) (hts _ (List.mem_cons_of_mem _ kw_39)) (fun _ h9 => h9) rfl dX0_join_70 ?_
          refine lv_iload_n hx hb dX0_join_73 rfl (lv_at hl 0 rfl) ?_
          obtain ⟨g47, hf⟩ := chk_some hf
          refine va_iald hx hb hK hP 2 0 rfl rfl (gin_in g47) dX0_join_74 ?_
          refine lv_aload_n hx hb dX0_join_75 rfl (lv_at hl 1 rfl) ?_
          refine va_get (D := (dC, dI)) (ci := 0) (v := .ref h_t_highOf) (C := RX0) (T := TX0) (N := 14) hx hb hts (in1 tw_X0) hown hK hP 0 rfl rfl 7 (by decide) (hts _ (List.mem_cons_of_mem _ kw_45)) (fun _ h9 => h9) rfl dX0_join_76 ?_
          refine lv_iload_n hx hb dX0_join_79 rfl (lv_at hl 3 rfl) ?_
          obtain ⟨g48, hf⟩ := chk_some hf
          refine va_iald hx hb hK hP 5 0 rfl rfl (gin_in g48) dX0_join_80 ?_
          refine va_mmin hx hb (hml.trans hl.1.symm) hown (hts _ (List.mem_cons_of_mem _ kw_411)) (hts _ (List.mem_cons_of_mem _ kw_4)) (hts _ (List.mem_cons_of_mem _ kw_5)) (hts _ (List.mem_cons_of_mem _ kw_6)) (Nat.le_of_ble_eq_true rfl) (Nat.le_of_ble_eq_true rfl) (Nat.zero_le _) (Nat.zero_le _) dX0_join_81 ?_
          obtain ⟨x49, e50, hf⟩ := nm_some hf
          refine lv_tope e50 ?_
          obtain ⟨g51, hf⟩ := chk_some hf
          obtain ⟨y52, e53, hf⟩ := nm_some hf
          refine va_iast hx hb hK hP hD hS 2 0 rfl rfl (gin_in g51) dX0_join_84 (fun H locs hP hD hS => ?_)
          have hP : va_P (dC, dI) vwCl [(h_t, .inr (0, fX0 h_t_least h_t_greatest h_t_leastBefore h_t_greatestBefore h_t_ridgeOf h_t_olderOf h_t_lowOf h_t_highOf t_taken h_t_cutsBetween h_t_soughtFor t_soughtSlow t_soughtFast t_lastLeftOut)), (h_t_least, .inl (cI, 8, .inl y45)), (h_t_greatest, .inl (cI, 8, .inl y52)), (h_t_ridgeOf, .inl (cI, 16, .inl t_ridgeOf)), (h_t_lowOf, .inl (cI, 16, .inl t_lowOf)), (h_t_highOf, .inl (cI, 16, .inl t_highOf)), (h_t_olderOf, .inl (cI, 16, .inl t_olderOf))] H := by rw [e53]; exact hP
          have hD : va_D A [(h_t, .inr (0, fX0 h_t_least h_t_greatest h_t_leastBefore h_t_greatestBefore h_t_ridgeOf h_t_olderOf h_t_lowOf h_t_highOf t_taken h_t_cutsBetween h_t_soughtFor t_soughtSlow t_soughtFast t_lastLeftOut)), (h_t_least, .inl (cI, 8, .inl y45)), (h_t_greatest, .inl (cI, 8, .inl y52)), (h_t_ridgeOf, .inl (cI, 16, .inl t_ridgeOf)), (h_t_lowOf, .inl (cI, 16, .inl t_lowOf)), (h_t_highOf, .inl (cI, 16, .inl t_highOf)), (h_t_olderOf, .inl (cI, 16, .inl t_olderOf))] := by rw [e53]; exact hD
          refine lv_iinc (v := (x31 + (1 : Int32))) (lv' := [(2, .int (x31 + (1 : Int32))), (3, .int x38), (0, .ref h_t), (1, .int p1)]) hx hb dX0_join_85 hl (k := 3) rfl rfl (by decide) rfl (fun ls hl => ?_)
          refine lv_goto (tgt := 20) hx hb dX0_join_88 (by decide) ?_
          exact ih32 _ _ _ _ _ hf hX34 _ _ hP hD hS _ (lv_sub hl [2, 3, 0] rfl)
  obtain ⟨y27, y28, hg, hf⟩ := bd2_some hf
  refine L54 FU _ _ _ _ _ hg ?_ _ _ hP hD hS _ (lv_sub hl [1, 2, 0] rfl)
  · intro H locs hP hD hS ls hl
    refine lv_iconst (v := (1 : Int32)) hx hb dX0_join_91 (by decide) ?_
    refine lv_istore_n (lv' := [(2, .int (1 : Int32)), (0, .ref h_t), (1, .int p1)]) hx hb dX0_join_92 rfl hl (by decide) rfl (fun ls hl => ?_)
    refine lv_iconst (v := (0 : Int32)) hx hb dX0_join_93 (by decide) ?_
    refine lv_istore_n (lv' := [(3, .int (0 : Int32)), (2, .int (1 : Int32)), (0, .ref h_t), (1, .int p1)]) hx hb dX0_join_94 rfl hl (by decide) rfl (fun ls hl => ?_)
    have L81 : ∀ (fu73 : Nat) (y68 : Nat → Int32) (y69 : Nat → Int32) (x70 : Int32) (x71 : Int32) (y65 : Nat → Int32) (y66 : Nat → Int32) (x67 : Int32), f_X0_join_L2 t_taken t_olderOf t_ridgeOf p1 fu73 y68 y69 x70 x71 = some (y65, y66, x67) → (∀ (H : Heap) (locs : List Loc), va_P (dC, dI) vwCl [(h_t, .inr (0, fX0 h_t_least h_t_greatest h_t_leastBefore h_t_greatestBefore h_t_ridgeOf h_t_olderOf h_t_lowOf h_t_highOf t_taken h_t_cutsBetween h_t_soughtFor t_soughtSlow t_soughtFast t_lastLeftOut)), (h_t_least, .inl (cI, 8, .inl y66)), (h_t_greatest, .inl (cI, 8, .inl y65)), (h_t_ridgeOf, .inl (cI, 16, .inl t_ridgeOf)), (h_t_lowOf, .inl (cI, 16, .inl t_lowOf)), (h_t_highOf, .inl (cI, 16, .inl t_highOf)), (h_t_olderOf, .inl (cI, 16, .inl t_olderOf))] H → va_D A [(h_t, .inr (0, fX0 h_t_least h_t_greatest h_t_leastBefore h_t_greatestBefore h_t_ridgeOf h_t_olderOf h_t_lowOf h_t_highOf t_taken h_t_cutsBetween h_t_soughtFor t_soughtSlow t_soughtFast t_lastLeftOut)), (h_t_least, .inl (cI, 8, .inl y66)), (h_t_greatest, .inl (cI, 8, .inl y65)), (h_t_ridgeOf, .inl (cI, 16, .inl t_ridgeOf)), (h_t_lowOf, .inl (cI, 16, .inl t_lowOf)), (h_t_highOf, .inl (cI, 16, .inl t_highOf)), (h_t_olderOf, .inl (cI, 16, .inl t_olderOf))] → va_S A s.heap H locs → ∀ ls : Array Slot, lv_has ls 4 [(0, .ref h_t), (2, .int x67)] → W p l e rmX0_join s m args below meth c H locs 0 0 Q (F0 m 117 ls [])) → ∀ (H : Heap) (locs : List Loc), va_P (dC, dI) vwCl [(h_t, .inr (0, fX0 h_t_least h_t_greatest h_t_leastBefore h_t_greatestBefore h_t_ridgeOf h_t_olderOf h_t_lowOf h_t_highOf t_taken h_t_cutsBetween h_t_soughtFor t_soughtSlow t_soughtFast t_lastLeftOut)), (h_t_least, .inl (cI, 8, .inl y69)), (h_t_greatest, .inl (cI, 8, .inl y68)), (h_t_ridgeOf, .inl (cI, 16, .inl t_ridgeOf)), (h_t_lowOf, .inl (cI, 16, .inl t_lowOf)), (h_t_highOf, .inl (cI, 16, .inl t_highOf)), (h_t_olderOf, .inl (cI, 16, .inl t_olderOf))] H → va_D A [(h_t, .inr (0, fX0 h_t_least h_t_greatest h_t_leastBefore h_t_greatestBefore h_t_ridgeOf h_t_olderOf h_t_lowOf h_t_highOf t_taken h_t_cutsBetween h_t_soughtFor t_soughtSlow t_soughtFast t_lastLeftOut)), (h_t_least, .inl (cI, 8, .inl y69)), (h_t_greatest, .inl (cI, 8, .inl y68)), (h_t_ridgeOf, .inl (cI, 16, .inl t_ridgeOf)), (h_t_lowOf, .inl (cI, 16, .inl t_lowOf)), (h_t_highOf, .inl (cI, 16, .inl t_highOf)), (h_t_olderOf, .inl (cI, 16, .inl t_olderOf))] → va_S A s.heap H locs → ∀ ls : Array Slot, lv_has ls 4 [(0, .ref h_t), (1, .int p1), (2, .int x70), (3, .int x71)] → W p l e rmX0_join s m args below meth c H locs 0 0 Q (F0 m 95 ls []) := by
      intro fu73
      induction fu73 with
      | zero =>
        intro y68 y69 x70 x71 y65 y66 x67 hf
        unfold f_X0_join_L2 at hf
        exact none_ne hf
      | succ fu73 ih72 =>
        intro y68 y69 x70 x71 y65 y66 x67 hf hX74 H locs hP hD hS ls hl
        unfold f_X0_join_L2 at hf
        refine lv_iload_n hx hb dX0_join_95 rfl (lv_at hl 3 rfl) ?_
        refine lv_bipush (v := (8 : Int32)) hx hb dX0_join_96 (by decide) ?_
        refine lv_icmp_ge (tgt := 117) hx hb dX0_join_98 (by decide) (fun c75 => ?_) (fun c75 => ?_)
        · replace hf := ifp c75 hf
          obtain ⟨rfl, rfl, rfl⟩ := inj3 hf
          exact hX74 _ _ hP hD hS _ (lv_sub hl [0, 2] rfl)
        · replace hf := ifn c75 hf
          refine lv_iload_n hx hb dX0_join_101 rfl (lv_at hl 2 rfl) ?_
          refine lv_if_eq (tgt := 117) hx hb dX0_join_102 (by decide) (fun c76 => ?_) (fun c76 => ?_)
          · replace hf := ifp c76 hf
            obtain ⟨rfl, rfl, rfl⟩ := inj3 hf
            exact hX74 _ _ hP hD hS _ (lv_sub hl [0, 2] rfl)
          · replace hf := ifn c76 hf
            refine lv_aload_n hx hb dX0_join_105 rfl (lv_at hl 0 rfl) ?_
            refine lv_iload_n hx hb dX0_join_106 rfl (lv_at hl 1 rfl) ?_
            obtain ⟨r77, y78, y79, hg80, hf⟩ := bd3_some hf
            refine CM_callV (C := RX0) (As := [.int p1]) (rest := []) (wc := [(h_t, .inr (0, fX0 h_t_least h_t_greatest h_t_leastBefore h_t_greatestBefore h_t_ridgeOf h_t_olderOf h_t_lowOf h_t_highOf t_taken h_t_cutsBetween h_t_soughtFor t_soughtSlow t_soughtFast t_lastLeftOut)), (h_t_olderOf, .inl (cI, 16, .inl t_olderOf)), (h_t_ridgeOf, .inl (cI, 16, .inl t_ridgeOf)), (h_t_least, .inl (cI, 8, .inl y69)), (h_t_greatest, .inl (cI, 8, .inl y68))]) (w1 := [(h_t, .inr (0, fX0 h_t_least h_t_greatest h_t_leastBefore h_t_greatestBefore h_t_ridgeOf h_t_olderOf h_t_lowOf h_t_highOf t_taken h_t_cutsBetween h_t_soughtFor t_soughtSlow t_soughtFast t_lastLeftOut)), (h_t_olderOf, .inl (cI, 16, .inl t_olderOf)), (h_t_ridgeOf, .inl (cI, 16, .inl t_ridgeOf)), (h_t_least, .inl (cI, 8, .inl y78)), (h_t_greatest, .inl (cI, 8, .inl y79))]) (wr := [(h_t_lowOf, .inl (cI, 16, .inl t_lowOf)), (h_t_highOf, .inl (cI, 16, .inl t_highOf))]) (wo := [(h_t, .inr (0, fX0 h_t_least h_t_greatest h_t_leastBefore h_t_greatestBefore h_t_ridgeOf h_t_olderOf h_t_lowOf h_t_highOf t_taken h_t_cutsBetween h_t_soughtFor t_soughtSlow t_soughtFast t_lastLeftOut)), (h_t_least, .inl (cI, 8, .inl y78)), (h_t_greatest, .inl (cI, 8, .inl y79)), (h_t_ridgeOf, .inl (cI, 16, .inl t_ridgeOf)), (h_t_lowOf, .inl (cI, 16, .inl t_lowOf)), (h_t_highOf, .inl (cI, 16, .inl t_highOf)), (h_t_olderOf, .inl (cI, 16, .inl t_olderOf))]) (v := (some (.int r77))) ⟨hx, hb, hml, hown, hts⟩ (c_X0_moveByCuts l dC dI cI cZ te h_t h_t_least h_t_greatest h_t_leastBefore h_t_greatestBefore h_t_ridgeOf h_t_olderOf h_t_lowOf h_t_highOf h_t_cutsBetween h_t_soughtFor t_taken t_soughtSlow t_soughtFast t_lastLeftOut t_olderOf t_ridgeOf y69 y68 p1 r77 y78 y79 hg80) (cwV 1 hts (gV kw_423 kw_424 kw_425 kw_88 kw_426) rfl rfl rfl (by decide +kernel) ⟨Nat.le_of_ble_eq_true rfl, Nat.le_of_ble_eq_true rfl⟩) (kS_env te) hK hP hD hS hA hE [0, 6, 3, 1, 2] [4, 5] [2, 5, 6, 4, 0, 1, 3] rfl rfl (by decide) (by decide) (by decide) (by decide) rfl 0 0 rfl rfl rfl rfl hl.1 rfl (Nat.le_of_ble_eq_true rfl) dX0_join_107 ⟨Nat.zero_le _, Nat.zero_le _⟩ (fun H locs hP hD hS => ?_)
            show W p l e rmX0_join s m args below meth c H locs 0 0 Q (F0 m 110 ls [.int r77])
            refine lv_istore_n (lv' := [(2, .int r77), (0, .ref h_t), (1, .int p1), (3, .int x71)]) hx hb dX0_join_110 rfl hl (by decide) rfl (fun ls hl => ?_)
            refine lv_iinc (v := (x71 + (1 : Int32))) (lv' := [(3, .int (x71 + (1 : Int32))), (2, .int r77), (0, .ref h_t), (1, .int p1)]) hx hb dX0_join_111 hl (k := 3) rfl rfl (by decide) rfl (fun ls hl => ?_)
            refine lv_goto (tgt := 95) hx hb dX0_join_114 (by decide) ?_
            exact ih72 _ _ _ _ _ _ _ hf hX74 _ _ hP hD hS _ (lv_sub hl [2, 3, 1, 0] rfl)
    obtain ⟨y65, y66, x67, hg, hf⟩ := bd3_some hf
    refine L81 FU _ _ _ _ _ _ _ hg ?_ _ _ hP hD hS _ (lv_sub hl [2, 3, 1, 0] rfl)
    · intro H locs hP hD hS ls hl
      refine lv_iload_n hx hb dX0_join_117 rfl (lv_at hl 1 rfl) ?_
      refine lv_if_ne (tgt := 132) hx hb dX0_join_118 (by decide) (fun c82 => ?_) (fun c82 => ?_)
      · replace hf := ifn c82 hf
        refine lv_iconst (v := (0 : Int32)) hx hb dX0_join_132 (by decide) ?_
        obtain ⟨rfl, rfl, rfl⟩ := inj3 hf
        subst hQ
        exact CM_iret hx hb hr rfl hlocks hAe hP hD hS dX0_join_133
      · replace hf := ifp c82 hf
        refine lv_aload_n hx hb dX0_join_121 rfl (lv_at hl 0 rfl) ?_
        obtain ⟨r83, hg84, hf⟩ := bd1_some hf
        refine CM_callV (C := RX0) (As := []) (rest := []) (wc := [(h_t, .inr (0, fX0 h_t_least h_t_greatest h_t_leastBefore h_t_greatestBefore h_t_ridgeOf h_t_olderOf h_t_lowOf h_t_highOf t_taken h_t_cutsBetween h_t_soughtFor t_soughtSlow t_soughtFast t_lastLeftOut)), (h_t_least, .inl (cI, 8, .inl y66)), (h_t_greatest, .inl (cI, 8, .inl y65))]) (w1 := [(h_t, .inr (0, fX0 h_t_least h_t_greatest h_t_leastBefore h_t_greatestBefore h_t_ridgeOf h_t_olderOf h_t_lowOf h_t_highOf t_taken h_t_cutsBetween h_t_soughtFor t_soughtSlow t_soughtFast t_lastLeftOut)), (h_t_least, .inl (cI, 8, .inl y66)), (h_t_greatest, .inl (cI, 8, .inl y65))]) (wr := [(h_t_ridgeOf, .inl (cI, 16, .inl t_ridgeOf)), (h_t_lowOf, .inl (cI, 16, .inl t_lowOf)), (h_t_highOf, .inl (cI, 16, .inl t_highOf)), (h_t_olderOf, .inl (cI, 16, .inl t_olderOf))]) (wo := [(h_t, .inr (0, fX0 h_t_least h_t_greatest h_t_leastBefore h_t_greatestBefore h_t_ridgeOf h_t_olderOf h_t_lowOf h_t_highOf t_taken h_t_cutsBetween h_t_soughtFor t_soughtSlow t_soughtFast t_lastLeftOut)), (h_t_least, .inl (cI, 8, .inl y66)), (h_t_greatest, .inl (cI, 8, .inl y65)), (h_t_ridgeOf, .inl (cI, 16, .inl t_ridgeOf)), (h_t_lowOf, .inl (cI, 16, .inl t_lowOf)), (h_t_highOf, .inl (cI, 16, .inl t_highOf)), (h_t_olderOf, .inl (cI, 16, .inl t_olderOf))]) (v := (some (.int r83))) ⟨hx, hb, hml, hown, hts⟩ (c_X0_haveAllAges l dC dI cI cZ te h_t h_t_least h_t_greatest h_t_leastBefore h_t_greatestBefore h_t_ridgeOf h_t_olderOf h_t_lowOf h_t_highOf h_t_cutsBetween h_t_soughtFor t_taken t_soughtSlow t_soughtFast t_lastLeftOut y66 y65 r83 hg84) (cwV 0 hts (gV kw_427 kw_428 kw_429 kw_88 kw_430) rfl rfl rfl (by decide +kernel) ⟨Nat.le_of_ble_eq_true rfl, Nat.le_of_ble_eq_true rfl⟩) (kS_env te) hK hP hD hS hA hE [0, 1, 2] [3, 4, 5, 6] [4, 5, 6, 0, 1, 2, 3] rfl rfl (by decide) (by decide) (by decide) (by decide) rfl 0 0 rfl rfl rfl rfl hl.1 rfl (Nat.le_of_ble_eq_true rfl) dX0_join_122 ⟨Nat.zero_le _, Nat.zero_le _⟩ (fun H locs hP hD hS => ?_)
        show W p l e rmX0_join s m args below meth c H locs 0 0 Q (F0 m 125 ls [.int r83])
        refine lv_if_eq (tgt := 132) hx hb dX0_join_125 (by decide) (fun c85 => ?_) (fun c85 => ?_)
        · replace hf := ifp c85 hf
          refine lv_iconst (v := (0 : Int32)) hx hb dX0_join_132 (by decide) ?_
          obtain ⟨rfl, rfl, rfl⟩ := inj3 hf
          subst hQ
          exact CM_iret hx hb hr rfl hlocks hAe hP hD hS dX0_join_133
        · replace hf := ifn c85 hf
          refine lv_iconst (v := (1 : Int32)) hx hb dX0_join_128 (by decide) ?_
          refine lv_goto (tgt := 133) hx hb dX0_join_129 (by decide) ?_
          obtain ⟨rfl, rfl, rfl⟩ := inj3 hf
          subst hQ
          exact CM_iret hx hb hr rfl hlocks hAe hP hD hS dX0_join_133
def rmX0_joinBy : Room := { frames := 3, cells := 0, slots := 0, locals := 67 }
abbrev wqX0_joinBy : List Cond := Cond.code yX0_joinBy cX0_joinBy 3 (some .boolean) :: tG
set_option maxHeartbeats 4000000 in
set_option maxRecDepth 100000 in
theorem c_X0_joinBy (l : Launch) (dC : Nat → ClassId) (dI : Nat → Nat → Nat) (cI cZ : ClassId) (te : Nat → Nat) (h_t : Nat) (h_p1 : Nat) (h_p1_surfaces : Nat) (h_p1_cliffs : Nat) (h_p1_boulders : Nat) (h_p1_scratches : Nat) (h_p1_numbers : Nat) (h_p1_facts : Nat) (h_p1_signs : Nat) (h_p1_areas : Nat) (h_p1_heights : Nat) (h_p1_facts_cells : Nat) (h_t_least : Nat) (h_t_greatest : Nat) (h_t_leastBefore : Nat) (h_t_greatestBefore : Nat) (h_t_ridgeOf : Nat) (h_t_olderOf : Nat) (h_t_lowOf : Nat) (h_t_highOf : Nat) (h_t_cutsBetween : Nat) (h_t_soughtFor : Nat) (p1_ridges : Int32) (p1_facts_limit : Int32) (p1_facts_size : Int32) (t_taken : Int32) (t_soughtSlow : Int32) (t_soughtFast : Int32) (t_lastLeftOut : Int32) (n_p1_facts_cells : Nat) (p1_facts_cells : Nat → Int32) (t_ridgeOf : Nat → Int32) (t_olderOf : Nat → Int32) (t_lowOf : Nat → Int32) (t_highOf : Nat → Int32) (p1_numbers : Nat → Int32) (t_least : Nat → Int32) (t_greatest : Nat → Int32) (p2 : Int32) (o0 : Int32) (o1 : Int32) (o2 : Nat → Int32) (o3 : Nat → Int32) (o4 : Nat → Int32) (o5 : Nat → Int32) (o6 : Nat → Int32) (o7 : Nat → Int32) (hf : f_X0_joinBy p1_facts_size n_p1_facts_cells p1_facts_cells t_ridgeOf t_olderOf t_lowOf t_highOf p1_numbers t_least t_greatest p2 = some (o0, o1, o2, o3, o4, o5, o6, o7)) : CM l yX0_joinBy wqX0_joinBy rmX0_joinBy (kS te) dC dI cI cZ [.ref h_t, .ref h_p1, .int p2] [(h_p1, .inr (1, fX1 h_p1_surfaces h_p1_cliffs h_p1_boulders h_p1_scratches h_p1_numbers h_p1_facts h_p1_signs h_p1_areas h_p1_heights p1_ridges)), (h_p1_facts, .inr (4, fX4 p1_facts_limit h_p1_facts_cells p1_facts_size)), (h_t, .inr (0, fX0 h_t_least h_t_greatest h_t_leastBefore h_t_greatestBefore h_t_ridgeOf h_t_olderOf h_t_lowOf h_t_highOf t_taken h_t_cutsBetween h_t_soughtFor t_soughtSlow t_soughtFast t_lastLeftOut)), (h_p1_facts_cells, .inl (cI, n_p1_facts_cells, .inl p1_facts_cells)), (h_t_ridgeOf, .inl (cI, 16, .inl t_ridgeOf)), (h_t_olderOf, .inl (cI, 16, .inl t_olderOf)), (h_t_lowOf, .inl (cI, 16, .inl t_lowOf)), (h_t_highOf, .inl (cI, 16, .inl t_highOf)), (h_p1_numbers, .inl (cI, 6, .inl p1_numbers)), (h_t_least, .inl (cI, 8, .inl t_least)), (h_t_greatest, .inl (cI, 8, .inl t_greatest))] [(h_p1, .inr (1, fX1 h_p1_surfaces h_p1_cliffs h_p1_boulders h_p1_scratches h_p1_numbers h_p1_facts h_p1_signs h_p1_areas h_p1_heights p1_ridges)), (h_p1_facts, .inr (4, fX4 p1_facts_limit h_p1_facts_cells p1_facts_size)), (h_t, .inr (0, fX0 h_t_least h_t_greatest h_t_leastBefore h_t_greatestBefore h_t_ridgeOf h_t_olderOf h_t_lowOf h_t_highOf o1 h_t_cutsBetween h_t_soughtFor t_soughtSlow t_soughtFast t_lastLeftOut)), (h_p1_facts_cells, .inl (cI, n_p1_facts_cells, .inl p1_facts_cells)), (h_t_ridgeOf, .inl (cI, 16, .inl o2)), (h_t_olderOf, .inl (cI, 16, .inl o3)), (h_t_lowOf, .inl (cI, 16, .inl o4)), (h_t_highOf, .inl (cI, 16, .inl o5)), (h_p1_numbers, .inl (cI, 6, .inl p1_numbers)), (h_t_least, .inl (cI, 8, .inl o6)), (h_t_greatest, .inl (cI, 8, .inl o7))] (some (.int o0)) := by
  refine CM_of (cc := cX0_joinBy) (maxL := 3) (ret := (some .boolean)) (by decide +kernel) rfl (Nat.le_of_ble_eq_true rfl) ?_
  intro p e s m args below meth c A Q hx hb hr hml hown hts hlocks hA hK hP hD hS hE hQ hAe ls hl
  have hown : s.vm.findClass RX0 = some m.cls := hown
  have hl : lv_has ls 3 [(0, .ref h_t), (1, .ref h_p1), (2, .int p2)] := hl
  unfold f_X0_joinBy at hf
  refine lv_aload_n hx hb dX0_joinBy_0 rfl (lv_at hl 0 rfl) ?_
  refine lv_aload_n hx hb dX0_joinBy_1 rfl (lv_at hl 1 rfl) ?_
  obtain ⟨x1, y2, y3, y4, y5, hg6, hf⟩ := bd5_some hf
  refine CM_callV (C := RX0) (As := [.ref h_p1]) (rest := []) (wc := [(h_p1, .inr (1, fX1 h_p1_surfaces h_p1_cliffs h_p1_boulders h_p1_scratches h_p1_numbers h_p1_facts h_p1_signs h_p1_areas h_p1_heights p1_ridges)), (h_p1_facts, .inr (4, fX4 p1_facts_limit h_p1_facts_cells p1_facts_size)), (h_t, .inr (0, fX0 h_t_least h_t_greatest h_t_leastBefore h_t_greatestBefore h_t_ridgeOf h_t_olderOf h_t_lowOf h_t_highOf t_taken h_t_cutsBetween h_t_soughtFor t_soughtSlow t_soughtFast t_lastLeftOut)), (h_p1_facts_cells, .inl (cI, n_p1_facts_cells, .inl p1_facts_cells)), (h_t_ridgeOf, .inl (cI, 16, .inl t_ridgeOf)), (h_t_olderOf, .inl (cI, 16, .inl t_olderOf)), (h_t_lowOf, .inl (cI, 16, .inl t_lowOf)), (h_t_highOf, .inl (cI, 16, .inl t_highOf)), (h_p1_numbers, .inl (cI, 6, .inl p1_numbers))]) (w1 := [(h_p1, .inr (1, fX1 h_p1_surfaces h_p1_cliffs h_p1_boulders h_p1_scratches h_p1_numbers h_p1_facts h_p1_signs h_p1_areas h_p1_heights p1_ridges)), (h_p1_facts, .inr (4, fX4 p1_facts_limit h_p1_facts_cells p1_facts_size)), (h_t, .inr (0, fX0 h_t_least h_t_greatest h_t_leastBefore h_t_greatestBefore h_t_ridgeOf h_t_olderOf h_t_lowOf h_t_highOf x1 h_t_cutsBetween h_t_soughtFor t_soughtSlow t_soughtFast t_lastLeftOut)), (h_p1_facts_cells, .inl (cI, n_p1_facts_cells, .inl p1_facts_cells)), (h_t_ridgeOf, .inl (cI, 16, .inl y2)), (h_t_olderOf, .inl (cI, 16, .inl y3)), (h_t_lowOf, .inl (cI, 16, .inl y4)), (h_t_highOf, .inl (cI, 16, .inl y5)), (h_p1_numbers, .inl (cI, 6, .inl p1_numbers))]) (wr := [(h_t_least, .inl (cI, 8, .inl t_least)), (h_t_greatest, .inl (cI, 8, .inl t_greatest))]) (wo := [(h_p1, .inr (1, fX1 h_p1_surfaces h_p1_cliffs h_p1_boulders h_p1_scratches h_p1_numbers h_p1_facts h_p1_signs h_p1_areas h_p1_heights p1_ridges)), (h_p1_facts, .inr (4, fX4 p1_facts_limit h_p1_facts_cells p1_facts_size)), (h_t, .inr (0, fX0 h_t_least h_t_greatest h_t_leastBefore h_t_greatestBefore h_t_ridgeOf h_t_olderOf h_t_lowOf h_t_highOf x1 h_t_cutsBetween h_t_soughtFor t_soughtSlow t_soughtFast t_lastLeftOut)), (h_p1_facts_cells, .inl (cI, n_p1_facts_cells, .inl p1_facts_cells)), (h_t_ridgeOf, .inl (cI, 16, .inl y2)), (h_t_olderOf, .inl (cI, 16, .inl y3)), (h_t_lowOf, .inl (cI, 16, .inl y4)), (h_t_highOf, .inl (cI, 16, .inl y5)), (h_p1_numbers, .inl (cI, 6, .inl p1_numbers)), (h_t_least, .inl (cI, 8, .inl t_least)), (h_t_greatest, .inl (cI, 8, .inl t_greatest))]) (v := (none)) ⟨hx, hb, hml, hown, hts⟩ (c_X0_take l dC dI cI cZ te h_t h_p1 h_p1_surfaces h_p1_cliffs h_p1_boulders h_p1_scratches h_p1_numbers h_p1_facts h_p1_signs h_p1_areas h_p1_heights h_p1_facts_cells h_t_least h_t_greatest h_t_leastBefore h_t_greatestBefore h_t_ridgeOf h_t_olderOf h_t_lowOf h_t_highOf h_t_cutsBetween h_t_soughtFor p1_ridges p1_facts_limit p1_facts_size t_taken t_soughtSlow t_soughtFast t_lastLeftOut n_p1_facts_cells p1_facts_cells t_ridgeOf t_olderOf t_lowOf t_highOf p1_numbers x1 y2 y3 y4 y5 hg6) (cwV 1 hts (gV kw_431 kw_432 kw_433 kw_88 kw_434) rfl rfl rfl (by decide +kernel) ⟨Nat.le_of_ble_eq_true rfl, Nat.le_of_ble_eq_true rfl⟩) (kS_env te) hK hP hD hS hA hE [0, 1, 2, 3, 4, 5, 6, 7, 8] [9, 10] [2, 3, 4, 5, 6, 7, 8, 9, 10, 0, 1] rfl rfl (by decide) (by decide) (by decide) (by decide) rfl 2 0 rfl rfl rfl rfl hl.1 rfl (Nat.le_of_ble_eq_true rfl) dX0_joinBy_2 ⟨Nat.zero_le _, Nat.zero_le _⟩ (fun H locs hP hD hS => ?_)
  show W p l e rmX0_joinBy s m args below meth c H locs 0 0 Q (F0 m 5 ls [])
  refine lv_aload_n hx hb dX0_joinBy_5 rfl (lv_at hl 0 rfl) ?_
  refine lv_iload_n hx hb dX0_joinBy_6 rfl (lv_at hl 2 rfl) ?_
  obtain ⟨r7, y8, y9, hg10, hf⟩ := bd3_some hf
  refine CM_callV (C := RX0) (As := [.int p2]) (rest := []) (wc := [(h_t, .inr (0, fX0 h_t_least h_t_greatest h_t_leastBefore h_t_greatestBefore h_t_ridgeOf h_t_olderOf h_t_lowOf h_t_highOf x1 h_t_cutsBetween h_t_soughtFor t_soughtSlow t_soughtFast t_lastLeftOut)), (h_t_least, .inl (cI, 8, .inl t_least)), (h_t_greatest, .inl (cI, 8, .inl t_greatest)), (h_t_ridgeOf, .inl (cI, 16, .inl y2)), (h_t_lowOf, .inl (cI, 16, .inl y4)), (h_t_highOf, .inl (cI, 16, .inl y5)), (h_t_olderOf, .inl (cI, 16, .inl y3))]) (w1 := [(h_t, .inr (0, fX0 h_t_least h_t_greatest h_t_leastBefore h_t_greatestBefore h_t_ridgeOf h_t_olderOf h_t_lowOf h_t_highOf x1 h_t_cutsBetween h_t_soughtFor t_soughtSlow t_soughtFast t_lastLeftOut)), (h_t_least, .inl (cI, 8, .inl y8)), (h_t_greatest, .inl (cI, 8, .inl y9)), (h_t_ridgeOf, .inl (cI, 16, .inl y2)), (h_t_lowOf, .inl (cI, 16, .inl y4)), (h_t_highOf, .inl (cI, 16, .inl y5)), (h_t_olderOf, .inl (cI, 16, .inl y3))]) (wr := [(h_p1, .inr (1, fX1 h_p1_surfaces h_p1_cliffs h_p1_boulders h_p1_scratches h_p1_numbers h_p1_facts h_p1_signs h_p1_areas h_p1_heights p1_ridges)), (h_p1_facts, .inr (4, fX4 p1_facts_limit h_p1_facts_cells p1_facts_size)), (h_p1_facts_cells, .inl (cI, n_p1_facts_cells, .inl p1_facts_cells)), (h_p1_numbers, .inl (cI, 6, .inl p1_numbers))]) (wo := [(h_p1, .inr (1, fX1 h_p1_surfaces h_p1_cliffs h_p1_boulders h_p1_scratches h_p1_numbers h_p1_facts h_p1_signs h_p1_areas h_p1_heights p1_ridges)), (h_p1_facts, .inr (4, fX4 p1_facts_limit h_p1_facts_cells p1_facts_size)), (h_t, .inr (0, fX0 h_t_least h_t_greatest h_t_leastBefore h_t_greatestBefore h_t_ridgeOf h_t_olderOf h_t_lowOf h_t_highOf x1 h_t_cutsBetween h_t_soughtFor t_soughtSlow t_soughtFast t_lastLeftOut)), (h_p1_facts_cells, .inl (cI, n_p1_facts_cells, .inl p1_facts_cells)), (h_t_ridgeOf, .inl (cI, 16, .inl y2)), (h_t_olderOf, .inl (cI, 16, .inl y3)), (h_t_lowOf, .inl (cI, 16, .inl y4)), (h_t_highOf, .inl (cI, 16, .inl y5)), (h_p1_numbers, .inl (cI, 6, .inl p1_numbers)), (h_t_least, .inl (cI, 8, .inl y8)), (h_t_greatest, .inl (cI, 8, .inl y9))]) (v := (some (.int r7))) ⟨hx, hb, hml, hown, hts⟩ (c_X0_join l dC dI cI cZ te h_t h_t_least h_t_greatest h_t_leastBefore h_t_greatestBefore h_t_ridgeOf h_t_olderOf h_t_lowOf h_t_highOf h_t_cutsBetween h_t_soughtFor x1 t_soughtSlow t_soughtFast t_lastLeftOut t_least t_greatest y2 y4 y5 y3 p2 r7 y8 y9 hg10) (cwV 1 hts (gV kw_435 kw_436 kw_437 kw_88 kw_438) rfl rfl rfl (by decide +kernel) ⟨Nat.le_of_ble_eq_true rfl, Nat.le_of_ble_eq_true rfl⟩) (kS_env te) hK hP hD hS hA hE [2, 9, 10, 4, 6, 7, 5] [0, 1, 3, 8] [0, 1, 4, 2, 7, 10, 8, 9, 3, 5, 6] rfl rfl (by decide) (by decide) (by decide) (by decide) rfl 2 0 rfl rfl rfl rfl hl.1 rfl (Nat.le_of_ble_eq_true rfl) dX0_joinBy_7 ⟨Nat.zero_le _, Nat.zero_le _⟩ (fun H locs hP hD hS => ?_)
  show W p l e rmX0_joinBy s m args below meth c H locs 0 0 Q (F0 m 10 ls [.int r7])
  obtain ⟨g11, hf⟩ := chk_some hf
  obtain ⟨rfl, rfl, rfl, rfl, rfl, rfl, rfl, rfl⟩ := inj8 hf
  subst hQ
  exact CM_iret hx hb hr (gz_n g11) hlocks hAe hP hD hS dX0_joinBy_10
def rmX4_isLike : Room := { frames := 2, cells := 0, slots := 0, locals := 43 }
abbrev wqX4_isLike : List Cond := Cond.code yX4_isLike cX4_isLike 5 (some .boolean) :: tG
set_option maxHeartbeats 4000000 in
set_option maxRecDepth 100000 in
theorem c_X4_isLike (l : Launch) (dC : Nat → ClassId) (dI : Nat → Nat → Nat) (cI cZ : ClassId) (te : Nat → Nat) (h_t : Nat) (h_p1 : Nat) (h_t_cells : Nat) (h_p1_cells : Nat) (t_limit : Int32) (t_size : Int32) (p1_limit : Int32) (p1_size : Int32) (n_t_cells : Nat) (t_cells : Nat → Int32) (n_p1_cells : Nat) (p1_cells : Nat → Int32) (o0 : Int32) (hf : f_X4_isLike t_size p1_size n_t_cells t_cells n_p1_cells p1_cells = some o0) : CM l yX4_isLike wqX4_isLike rmX4_isLike (kS te) dC dI cI cZ [.ref h_t, .ref h_p1] [(h_t, .inr (4, fX4 t_limit h_t_cells t_size)), (h_p1, .inr (4, fX4 p1_limit h_p1_cells p1_size)), (h_t_cells, .inl (cI, n_t_cells, .inl t_cells)), (h_p1_cells, .inl (cI, n_p1_cells, .inl p1_cells))] [(h_t, .inr (4, fX4 t_limit h_t_cells t_size)), (h_p1, .inr (4, fX4 p1_limit h_p1_cells p1_size)), (h_t_cells, .inl (cI, n_t_cells, .inl t_cells)), (h_p1_cells, .inl (cI, n_p1_cells, .inl p1_cells))] (some (.int o0)) := by
  refine CM_of (cc := cX4_isLike) (maxL := 5) (ret := (some .boolean)) (by decide +kernel) rfl (Nat.le_of_ble_eq_true rfl) ?_
  intro p e s m args below meth c A Q hx hb hr hml hown hts hlocks hA hK hP hD hS hE hQ hAe ls hl
  have hown : s.vm.findClass RX4 = some m.cls := hown
  have hl : lv_has ls 5 [(0, .ref h_t), (1, .ref h_p1)] := hl
  unfold f_X4_isLike at hf
  refine lv_aload_n hx hb dX4_isLike_0 rfl (lv_at hl 0 rfl) ?_
  refine va_get (D := (dC, dI)) (ci := 4) (v := .int t_size) (C := RX4) (T := TX4) (N := 3) hx hb hts (in1 tw_X4) hown hK hP 0 rfl rfl 2 (by decide) (hts _ (List.mem_cons_of_mem _ kw_401)) (fun _ h9 => h9) rfl dX4_isLike_1 ?_
  refine lv_aload_n hx hb dX4_isLike_4 rfl (lv_at hl 1 rfl) ?_
  refine va_get (D := (dC, dI)) (ci := 4) (v := .int p1_size) (C := RX4) (T := TX4) (N := 3) hx hb hts (in1 tw_X4) hown hK hP 1 rfl rfl 2 (by decide) (hts _ (List.mem_cons_of_mem _ kw_401)) (fun _ h9 => h9) rfl dX4_isLike_5 ?_
  obtain ⟨x1, hg, hf⟩ := bd1_some hf
  have J2 : ∀ (H : Heap) (locs : List Loc), va_P (dC, dI) vwCl [(h_t, .inr (4, fX4 t_limit h_t_cells t_size)), (h_p1, .inr (4, fX4 p1_limit h_p1_cells p1_size)), (h_t_cells, .inl (cI, n_t_cells, .inl t_cells)), (h_p1_cells, .inl (cI, n_p1_cells, .inl p1_cells))] H → va_D A [(h_t, .inr (4, fX4 t_limit h_t_cells t_size)), (h_p1, .inr (4, fX4 p1_limit h_p1_cells p1_size)), (h_t_cells, .inl (cI, n_t_cells, .inl t_cells)), (h_p1_cells, .inl (cI, n_p1_cells, .inl p1_cells))] → va_S A s.heap H locs → ∀ ls : Array Slot, lv_has ls 5 [(0, .ref h_t), (1, .ref h_p1)] → W p l e rmX4_isLike s m args below meth c H locs 0 0 Q (F0 m 16 ls [.int x1]) := by
    intro H locs hP hD hS ls hl
    refine lv_istore_n (lv' := [(2, .int x1), (0, .ref h_t), (1, .ref h_p1)]) hx hb dX4_isLike_16 rfl hl (by decide) rfl (fun ls hl => ?_)
    refine lv_iconst (v := (0 : Int32)) hx hb dX4_isLike_17 (by decide) ?_
    refine lv_istore_n (lv' := [(3, .int (0 : Int32)), (2, .int x1), (0, .ref h_t), (1, .ref h_p1)]) hx hb dX4_isLike_18 rfl hl (by decide) rfl (fun ls hl => ?_)
    have L61 : ∀ (fu34 : Nat) (x31 : Int32) (x32 : Int32) (x30 : Int32), f_X4_isLike_L3 t_size n_t_cells t_cells p1_size n_p1_cells p1_cells fu34 x31 x32 = some x30 → (∀ (H : Heap) (locs : List Loc), va_P (dC, dI) vwCl [(h_t, .inr (4, fX4 t_limit h_t_cells t_size)), (h_p1, .inr (4, fX4 p1_limit h_p1_cells p1_size)), (h_t_cells, .inl (cI, n_t_cells, .inl t_cells)), (h_p1_cells, .inl (cI, n_p1_cells, .inl p1_cells))] H → va_D A [(h_t, .inr (4, fX4 t_limit h_t_cells t_size)), (h_p1, .inr (4, fX4 p1_limit h_p1_cells p1_size)), (h_t_cells, .inl (cI, n_t_cells, .inl t_cells)), (h_p1_cells, .inl (cI, n_p1_cells, .inl p1_cells))] → va_S A s.heap H locs → ∀ ls : Array Slot, lv_has ls 5 [(2, .int x30)] → W p l e rmX4_isLike s m args below meth c H locs 0 0 Q (F0 m 79 ls [])) → ∀ (H : Heap) (locs : List Loc), va_P (dC, dI) vwCl [(h_t, .inr (4, fX4 t_limit h_t_cells t_size)), (h_p1, .inr (4, fX4 p1_limit h_p1_cells p1_size)), (h_t_cells, .inl (cI, n_t_cells, .inl t_cells)), (h_p1_cells, .inl (cI, n_p1_cells, .inl p1_cells))] H → va_D A [(h_t, .inr (4, fX4 t_limit h_t_cells t_size)), (h_p1, .inr (4, fX4 p1_limit h_p1_cells p1_size)), (h_t_cells, .inl (cI, n_t_cells, .inl t_cells)), (h_p1_cells, .inl (cI, n_p1_cells, .inl p1_cells))] → va_S A s.heap H locs → ∀ ls : Array Slot, lv_has ls 5 [(0, .ref h_t), (1, .ref h_p1), (2, .int x31), (3, .int x32)] → W p l e rmX4_isLike s m args below meth c H locs 0 0 Q (F0 m 19 ls []) := by
      intro fu34
      induction fu34 with
      | zero =>
        intro x31 x32 x30 hf
        unfold f_X4_isLike_L3 at hf
        exact none_ne hf
      | succ fu34 ih33 =>
        intro x31 x32 x30 hf hX35 H locs hP hD hS ls hl
        unfold f_X4_isLike_L3 at hf
        refine lv_iload_n hx hb dX4_isLike_19 rfl (lv_at hl 3 rfl) ?_
        refine lv_aload_n hx hb dX4_isLike_20 rfl (lv_at hl 0 rfl) ?_
        refine va_get (D := (dC, dI)) (ci := 4) (v := .int t_size) (C := RX4) (T := TX4) (N := 3) hx hb hts (in1 tw_X4) hown hK hP 0 rfl rfl 2 (by decide) (hts _ (List.mem_cons_of_mem _ kw_401)) (fun _ h9 => h9) rfl dX4_isLike_21 ?_
        refine lv_icmp_ge (tgt := 79) hx hb dX4_isLike_24 (by decide) (fun c36 => ?_) (fun c36 => ?_)
        · replace hf := ifp c36 hf
          obtain rfl := inj1 hf
          exact hX35 _ _ hP hD hS _ (lv_sub hl [2] rfl)
        · replace hf := ifn c36 hf
          refine lv_iload_n hx hb dX4_isLike_27 rfl (lv_at hl 2 rfl) ?_
          refine lv_if_eq (tgt := 79) hx hb dX4_isLike_28 (by decide) (fun c37 => ?_) (fun c37 => ?_)
          · replace hf := ifp c37 hf
            obtain rfl := inj1 hf
            exact hX35 _ _ hP hD hS _ (lv_sub hl [2] rfl)
          · replace hf := ifn c37 hf
            refine lv_iconst (v := (0 : Int32)) hx hb dX4_isLike_31 (by decide) ?_
            refine lv_istore (lv' := [(4, .int (0 : Int32)), (0, .ref h_t), (1, .ref h_p1), (2, .int x31), (3, .int x32)]) hx hb dX4_isLike_32 hl (by decide) rfl (fun ls hl => ?_)
            have L60 : ∀ (fu51 : Nat) (x48 : Int32) (x49 : Int32) (x47 : Int32), f_X4_isLike_L4 t_size n_t_cells t_cells x32 p1_size n_p1_cells p1_cells fu51 x48 x49 = some x47 → (∀ (H : Heap) (locs : List Loc), va_P (dC, dI) vwCl [(h_t, .inr (4, fX4 t_limit h_t_cells t_size)), (h_p1, .inr (4, fX4 p1_limit h_p1_cells p1_size)), (h_t_cells, .inl (cI, n_t_cells, .inl t_cells)), (h_p1_cells, .inl (cI, n_p1_cells, .inl p1_cells))] H → va_D A [(h_t, .inr (4, fX4 t_limit h_t_cells t_size)), (h_p1, .inr (4, fX4 p1_limit h_p1_cells p1_size)), (h_t_cells, .inl (cI, n_t_cells, .inl t_cells)), (h_p1_cells, .inl (cI, n_p1_cells, .inl p1_cells))] → va_S A s.heap H locs → ∀ ls : Array Slot, lv_has ls 5 [(0, .ref h_t), (1, .ref h_p1), (2, .int x47), (3, .int x32)] → W p l e rmX4_isLike s m args below meth c H locs 0 0 Q (F0 m 73 ls [])) → ∀ (H : Heap) (locs : List Loc), va_P (dC, dI) vwCl [(h_t, .inr (4, fX4 t_limit h_t_cells t_size)), (h_p1, .inr (4, fX4 p1_limit h_p1_cells p1_size)), (h_t_cells, .inl (cI, n_t_cells, .inl t_cells)), (h_p1_cells, .inl (cI, n_p1_cells, .inl p1_cells))] H → va_D A [(h_t, .inr (4, fX4 t_limit h_t_cells t_size)), (h_p1, .inr (4, fX4 p1_limit h_p1_cells p1_size)), (h_t_cells, .inl (cI, n_t_cells, .inl t_cells)), (h_p1_cells, .inl (cI, n_p1_cells, .inl p1_cells))] → va_S A s.heap H locs → ∀ ls : Array Slot, lv_has ls 5 [(0, .ref h_t), (1, .ref h_p1), (2, .int x48), (3, .int x32), (4, .int x49)] → W p l e rmX4_isLike s m args below meth c H locs 0 0 Q (F0 m 34 ls []) := by
              intro fu51
              induction fu51 with
              | zero =>
                intro x48 x49 x47 hf
                unfold f_X4_isLike_L4 at hf
                exact none_ne hf
              | succ fu51 ih50 =>
                intro x48 x49 x47 hf hX52 H locs hP hD hS ls hl
                unfold f_X4_isLike_L4 at hf
                refine lv_iload hx hb dX4_isLike_34 (lv_at hl 4 rfl) ?_
                refine lv_iconst (v := (5 : Int32)) hx hb dX4_isLike_36 (by decide) ?_
                refine lv_icmp_ge (tgt := 73) hx hb dX4_isLike_37 (by decide) (fun c53 => ?_) (fun c53 => ?_)
                · replace hf := ifp c53 hf
                  obtain rfl := inj1 hf
                  exact hX52 _ _ hP hD hS _ (lv_sub hl [0, 1, 2, 3] rfl)
                · replace hf := ifn c53 hf
                  refine lv_iload_n hx hb dX4_isLike_40 rfl (lv_at hl 2 rfl) ?_
                  refine lv_if_eq (tgt := 65) hx hb dX4_isLike_41 (by decide) (fun c54 => ?_) (fun c54 => ?_)
                  · replace hf := ifp c54 hf
                    refine lv_iconst (v := (0 : Int32)) hx hb dX4_isLike_65 (by decide) ?_
                    refine lv_istore_n (lv' := [(2, .int (0 : Int32)), (0, .ref h_t), (1, .ref h_p1), (3, .int x32), (4, .int x49)]) hx hb dX4_isLike_66 rfl hl (by decide) rfl (fun ls hl => ?_)
                    refine lv_iinc (v := (x49 + (1 : Int32))) (lv' := [(4, .int (x49 + (1 : Int32))), (2, .int (0 : Int32)), (0, .ref h_t), (1, .ref h_p1), (3, .int x32)]) hx hb dX4_isLike_67 hl (k := 4) rfl rfl (by decide) rfl (fun ls hl => ?_)
                    refine lv_goto (tgt := 34) hx hb dX4_isLike_70 (by decide) ?_
                    exact ih50 _ _ _ hf hX52 _ _ hP hD hS _ (lv_sub hl [2, 3, 1, 4, 0] rfl)
                  · replace hf := ifn c54 hf
                    refine lv_aload_n hx hb dX4_isLike_44 rfl (lv_at hl 0 rfl) ?_
                    refine lv_iload_n hx hb dX4_isLike_45 rfl (lv_at hl 3 rfl) ?_
                    refine lv_iload hx hb dX4_isLike_46 (lv_at hl 4 rfl) ?_
                    obtain ⟨r55, hg56, hf⟩ := bd1_some hf
                    refine CM_callV (C := RX4) (As := [.int x32, .int x49]) (rest := []) (wc := [(h_t, .inr (4, fX4 t_limit h_t_cells t_size)), (h_t_cells, .inl (cI, n_t_cells, .inl t_cells))]) (w1 := [(h_t, .inr (4, fX4 t_limit h_t_cells t_size)), (h_t_cells, .inl (cI, n_t_cells, .inl t_cells))]) (wr := [(h_p1, .inr (4, fX4 p1_limit h_p1_cells p1_size)), (h_p1_cells, .inl (cI, n_p1_cells, .inl p1_cells))]) (wo := [(h_t, .inr (4, fX4 t_limit h_t_cells t_size)), (h_p1, .inr (4, fX4 p1_limit h_p1_cells p1_size)), (h_t_cells, .inl (cI, n_t_cells, .inl t_cells)), (h_p1_cells, .inl (cI, n_p1_cells, .inl p1_cells))]) (v := (some (.int r55))) ⟨hx, hb, hml, hown, hts⟩ (c_X4_cell l dC dI cI cZ te h_t h_t_cells t_limit t_size n_t_cells t_cells x32 x49 r55 hg56) (cwV 2 hts (gV kw_439 kw_414 kw_415 kw_19 kw_416) rfl rfl rfl (by decide +kernel) ⟨Nat.le_of_ble_eq_true rfl, Nat.le_of_ble_eq_true rfl⟩) (kS_env te) hK hP hD hS hA hE [0, 2] [1, 3] [2, 0, 3, 1] rfl rfl (by decide) (by decide) (by decide) (by decide) rfl 0 4 rfl rfl rfl rfl hl.1 rfl (Nat.le_of_ble_eq_true rfl) dX4_isLike_48 ⟨Nat.zero_le _, Nat.zero_le _⟩ (fun H locs hP hD hS => ?_)
                    show W p l e rmX4_isLike s m args below meth c H locs 0 0 Q (F0 m 51 ls [.int r55])
                    refine lv_aload_n hx hb dX4_isLike_51 rfl (lv_at hl 1 rfl) ?_
                    refine lv_iload_n hx hb dX4_isLike_52 rfl (lv_at hl 3 rfl) ?_
                    refine lv_iload hx hb dX4_isLike_53 (lv_at hl 4 rfl) ?_
                    obtain ⟨r57, hg58, hf⟩ := bd1_some hf
                    refine CM_callV (C := RX4) (As := [.int x32, .int x49]) (rest := [.int r55]) (wc := [(h_p1, .inr (4, fX4 p1_limit h_p1_cells p1_size)), (h_p1_cells, .inl (cI, n_p1_cells, .inl p1_cells))]) (w1 := [(h_p1, .inr (4, fX4 p1_limit h_p1_cells p1_size)), (h_p1_cells, .inl (cI, n_p1_cells, .inl p1_cells))]) (wr := [(h_t, .inr (4, fX4 t_limit h_t_cells t_size)), (h_t_cells, .inl (cI, n_t_cells, .inl t_cells))]) (wo := [(h_t, .inr (4, fX4 t_limit h_t_cells t_size)), (h_p1, .inr (4, fX4 p1_limit h_p1_cells p1_size)), (h_t_cells, .inl (cI, n_t_cells, .inl t_cells)), (h_p1_cells, .inl (cI, n_p1_cells, .inl p1_cells))]) (v := (some (.int r57))) ⟨hx, hb, hml, hown, hts⟩ (c_X4_cell l dC dI cI cZ te h_p1 h_p1_cells p1_limit p1_size n_p1_cells p1_cells x32 x49 r57 hg58) (cwV 2 hts (gV kw_439 kw_414 kw_415 kw_19 kw_416) rfl rfl rfl (by decide +kernel) ⟨Nat.le_of_ble_eq_true rfl, Nat.le_of_ble_eq_true rfl⟩) (kS_env te) hK hP hD hS hA hE [1, 3] [0, 2] [0, 2, 1, 3] rfl rfl (by decide) (by decide) (by decide) (by decide) rfl 1 4 rfl rfl rfl rfl hl.1 rfl (Nat.le_of_ble_eq_true rfl) dX4_isLike_55 ⟨Nat.zero_le _, Nat.zero_le _⟩ (fun H locs hP hD hS => ?_)
                    show W p l e rmX4_isLike s m args below meth c H locs 0 0 Q (F0 m 58 ls [.int r57, .int r55])
                    refine lv_icmp_ne (tgt := 65) hx hb dX4_isLike_58 (by decide) (fun c59 => ?_) (fun c59 => ?_)
                    · replace hf := ifn c59 hf
                      refine lv_iconst (v := (0 : Int32)) hx hb dX4_isLike_65 (by decide) ?_
                      refine lv_istore_n (lv' := [(2, .int (0 : Int32)), (0, .ref h_t), (1, .ref h_p1), (3, .int x32), (4, .int x49)]) hx hb dX4_isLike_66 rfl hl (by decide) rfl (fun ls hl => ?_)
                      refine lv_iinc (v := (x49 + (1 : Int32))) (lv' := [(4, .int (x49 + (1 : Int32))), (2, .int (0 : Int32)), (0, .ref h_t), (1, .ref h_p1), (3, .int x32)]) hx hb dX4_isLike_67 hl (k := 4) rfl rfl (by decide) rfl (fun ls hl => ?_)
                      refine lv_goto (tgt := 34) hx hb dX4_isLike_70 (by decide) ?_
                      exact ih50 _ _ _ hf hX52 _ _ hP hD hS _ (lv_sub hl [2, 3, 1, 4, 0] rfl)
                    · replace hf := ifp c59 hf
                      refine lv_iconst (v := (1 : Int32)) hx hb dX4_isLike_61 (by decide) ?_
                      refine lv_goto (tgt := 66) hx hb dX4_isLike_62 (by decide) ?_
                      refine lv_istore_n (lv' := [(2, .int (1 : Int32)), (0, .ref h_t), (1, .ref h_p1), (3, .int x32), (4, .int x49)]) hx hb dX4_isLike_66 rfl hl (by decide) rfl (fun ls hl => ?_)
                      refine lv_iinc (v := (x49 + (1 : Int32))) (lv' := [(4, .int (x49 + (1 : Int32))), (2, .int (1 : Int32)), (0, .ref h_t), (1, .ref h_p1), (3, .int x32)]) hx hb dX4_isLike_67 hl (k := 4) rfl rfl (by decide) rfl (fun ls hl => ?_)
                      refine lv_goto (tgt := 34) hx hb dX4_isLike_70 (by decide) ?_
                      exact ih50 _ _ _ hf hX52 _ _ hP hD hS _ (lv_sub hl [2, 3, 1, 4, 0] rfl)
            obtain ⟨x47, hg, hf⟩ := bd1_some hf
            refine L60 FU _ _ _ hg ?_ _ _ hP hD hS _ (lv_sub hl [1, 2, 3, 4, 0] rfl)
            · intro H locs hP hD hS ls hl
              refine lv_iinc (v := (x32 + (1 : Int32))) (lv' := [(3, .int (x32 + (1 : Int32))), (0, .ref h_t), (1, .ref h_p1), (2, .int x47)]) hx hb dX4_isLike_73 hl (k := 3) rfl rfl (by decide) rfl (fun ls hl => ?_)
              refine lv_goto (tgt := 19) hx hb dX4_isLike_76 (by decide) ?_
              exact ih33 _ _ _ hf hX35 _ _ hP hD hS _ (lv_sub hl [1, 2, 3, 0] rfl)
    obtain ⟨x30, hg, hf⟩ := bd1_some hf
    refine L61 FU _ _ _ hg ?_ _ _ hP hD hS _ (lv_sub hl [2, 3, 1, 0] rfl)
    · intro H locs hP hD hS ls hl
      refine lv_iload_n hx hb dX4_isLike_79 rfl (lv_at hl 0 rfl) ?_
      obtain ⟨g62, hf⟩ := chk_some hf
      obtain rfl := inj1 hf
      subst hQ
      exact CM_iret hx hb hr (gz_n g62) hlocks hAe hP hD hS dX4_isLike_80
  clear hf
  have hf := hg
  refine lv_icmp_ne (tgt := 15) hx hb dX4_isLike_8 (by decide) (fun c63 => ?_) (fun c63 => ?_)
  · replace hf := ifn c63 hf
    refine lv_iconst (v := (0 : Int32)) hx hb dX4_isLike_15 (by decide) ?_
    obtain rfl := inj1 hf
    exact J2 _ _ hP hD hS _ (lv_sub hl [0, 1] rfl)
  · replace hf := ifp c63 hf
    refine lv_iconst (v := (1 : Int32)) hx hb dX4_isLike_11 (by decide) ?_
    refine lv_goto (tgt := 16) hx hb dX4_isLike_12 (by decide) ?_
    obtain rfl := inj1 hf
    exact J2 _ _ hP hD hS _ (lv_sub hl [0, 1] rfl)
def rmX0_nextOfAsManyBits : Room := { frames := 1, cells := 0, slots := 0, locals := 21 }
abbrev wqX0_nextOfAsManyBits : List Cond := Cond.code yX0_nextOfAsManyBits cX0_nextOfAsManyBits 3 (some .int) :: tG
set_option maxHeartbeats 4000000 in
set_option maxRecDepth 100000 in
theorem c_X0_nextOfAsManyBits (l : Launch) (dC : Nat → ClassId) (dI : Nat → Nat → Nat) (cI cZ : ClassId) (te : Nat → Nat) (p1 : Int32) (o0 : Int32) (hf : f_X0_nextOfAsManyBits p1 = some o0) : CM l yX0_nextOfAsManyBits wqX0_nextOfAsManyBits rmX0_nextOfAsManyBits (kS te) dC dI cI cZ [.int p1] [] [] (some (.int o0)) := by
  refine CM_of (cc := cX0_nextOfAsManyBits) (maxL := 3) (ret := (some .int)) (by decide +kernel) rfl (Nat.le_of_ble_eq_true rfl) ?_
  intro p e s m args below meth c A Q hx hb hr hml hown hts hlocks hA hK hP hD hS hE hQ hAe ls hl
  have hown : s.vm.findClass RX0 = some m.cls := hown
  have hl : lv_has ls 3 [(0, .int p1)] := hl
  unfold f_X0_nextOfAsManyBits at hf
  refine lv_iload_n hx hb dX0_nextOfAsManyBits_0 rfl (lv_at hl 0 rfl) ?_
  refine lv_iload_n hx hb dX0_nextOfAsManyBits_1 rfl (lv_at hl 0 rfl) ?_
  refine lv_ineg hx hb dX0_nextOfAsManyBits_2 ?_
  refine lv_iand hx hb dX0_nextOfAsManyBits_3 ?_
  obtain ⟨x1, e2, hf⟩ := nm_some hf
  refine lv_tope e2 ?_
  refine lv_istore_n (lv' := [(1, .int x1), (0, .int p1)]) hx hb dX0_nextOfAsManyBits_4 rfl hl (by decide) rfl (fun ls hl => ?_)
  refine lv_iload_n hx hb dX0_nextOfAsManyBits_5 rfl (lv_at hl 1 rfl) ?_
  refine lv_iload_n hx hb dX0_nextOfAsManyBits_6 rfl (lv_at hl 0 rfl) ?_
  refine lv_iadd hx hb dX0_nextOfAsManyBits_7 ?_
  obtain ⟨x3, e4, hf⟩ := nm_some hf
  refine lv_tope e4 ?_
  refine lv_istore_n (lv' := [(2, .int x3), (1, .int x1), (0, .int p1)]) hx hb dX0_nextOfAsManyBits_8 rfl hl (by decide) rfl (fun ls hl => ?_)
  refine lv_iload_n hx hb dX0_nextOfAsManyBits_9 rfl (lv_at hl 0 rfl) ?_
  refine lv_iload_n hx hb dX0_nextOfAsManyBits_10 rfl (lv_at hl 2 rfl) ?_
  refine lv_iload_n hx hb dX0_nextOfAsManyBits_11 rfl (lv_at hl 0 rfl) ?_
  refine lv_ixor hx hb dX0_nextOfAsManyBits_12 ?_
  refine lv_iload_n hx hb dX0_nextOfAsManyBits_13 rfl (lv_at hl 2 rfl) ?_
  obtain ⟨r5, hg6, hf⟩ := bd1_some hf
  refine CM_callS (As := [.int p1]) (rest := [.int (p1 ^^^ x3), .int x3]) (wc := []) (w1 := []) (wr := []) (wo := []) (v := (some (.int r5))) ⟨hx, hb, hml, hown, hts⟩ (c_J6_numberOfTrailingZeros_0f7a4 l dC dI cI cZ te p1 r5 hg6) (va_cwS 1 hts (gS kw_440 kw_441 kw_442 kw_443) rfl rfl rfl (by decide +kernel) ⟨Nat.le_of_ble_eq_true rfl, Nat.le_of_ble_eq_true rfl⟩) (kS_env te) hK hP hD hS hA hE [] [] [] rfl rfl (by decide) (by decide) (by decide) (by decide) rfl rfl hl.1 rfl (Nat.le_of_ble_eq_true rfl) dX0_nextOfAsManyBits_14 ⟨Nat.zero_le _, Nat.zero_le _⟩ (fun H locs hP hD hS => ?_)
  show W p l e rmX0_nextOfAsManyBits s m args below meth c H locs 0 0 Q (F0 m 17 ls [.int r5, .int (p1 ^^^ x3), .int x3])
  refine lv_iconst (v := (2 : Int32)) hx hb dX0_nextOfAsManyBits_17 (by decide) ?_
  refine lv_iadd hx hb dX0_nextOfAsManyBits_18 ?_
  refine lv_ishr hx hb dX0_nextOfAsManyBits_19 ?_
  refine lv_ior hx hb dX0_nextOfAsManyBits_20 ?_
  obtain rfl := inj1 hf
  subst hQ
  exact CM_iret hx hb hr rfl hlocks hAe hP hD hS dX0_nextOfAsManyBits_21
