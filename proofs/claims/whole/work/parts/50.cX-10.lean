def rmX9_sign : Room := { frames := 3, cells := 0, slots := 0, locals := 65 }
set_option maxRecDepth 20000 in
theorem kX9_sign_0 : ∀ w ∈ u_ws RX9 TX9 11, w ∈ wsX9_sign := by decide +kernel
set_option maxRecDepth 20000 in
theorem kX9_sign_1 : Cond.fieldLink RX9 10 "StoneRiver" "now" "LStoneRiver$Found;" ∈ wsX9_sign := by decide +kernel
set_option maxRecDepth 20000 in
theorem kX9_sign_2 : ∀ w ∈ u_ws RX1 TX1 10, w ∈ wsX9_sign := by decide +kernel
set_option maxRecDepth 20000 in
theorem kX9_sign_3 : Cond.fieldLink RX9 194 "StoneRiver$Found" "signs" "LStoneRiver$Rows;" ∈ wsX9_sign := by decide +kernel
set_option maxHeartbeats 4000000 in
set_option maxRecDepth 100000 in
theorem c_X9_sign (l : Launch) (dC : Nat → ClassId) (dI : Nat → Nat → Nat) (cI cZ : ClassId) (te : Nat → Nat) (h_t : Nat) (h_t_now : Nat) (h_t_beforeRead : Nat) (h_t_firstImage : Nat) (h_t_secondImage : Nat) (h_t_valley : Nat) (h_t_ages : Nat) (h_t_fronts : Nat) (h_t_outburst : Nat) (h_t_text : Nat) (h_t_now_surfaces : Nat) (h_t_now_cliffs : Nat) (h_t_now_boulders : Nat) (h_t_now_scratches : Nat) (h_t_now_numbers : Nat) (h_t_now_facts : Nat) (h_t_now_signs : Nat) (h_t_now_areas : Nat) (h_t_now_heights : Nat) (h_t_now_signs_cells : Nat) (t_firstKept : Int32) (t_secondKept : Int32) (t_now_ridges : Int32) (t_now_signs_limit : Int32) (t_now_signs_size : Int32) (n_t_now_signs_cells : Nat) (t_now_signs_cells : Nat → Int32) (p1 : Int32) (p2 : Int32) (p3 : Int32) (p4 : Int32) (o0 : Int32) (o1 : Int32) (o2 : Nat → Int32) (hf : f_X9_sign t_now_signs_limit t_now_signs_size n_t_now_signs_cells t_now_signs_cells p1 p2 p3 p4 = some (o0, o1, o2)) : CM l yX9_sign wsX9_sign rmX9_sign (kS te) dC dI cI cZ [.ref h_t, .int p1, .int p2, .int p3, .int p4] [(h_t, .inr (7, fX9 h_t_now h_t_beforeRead h_t_firstImage h_t_secondImage h_t_valley h_t_ages h_t_fronts h_t_outburst h_t_text t_firstKept t_secondKept)), (h_t_now, .inr (1, fX1 h_t_now_surfaces h_t_now_cliffs h_t_now_boulders h_t_now_scratches h_t_now_numbers h_t_now_facts h_t_now_signs h_t_now_areas h_t_now_heights t_now_ridges)), (h_t_now_signs, .inr (4, fX4 t_now_signs_limit h_t_now_signs_cells t_now_signs_size)), (h_t_now_signs_cells, .inl (cI, n_t_now_signs_cells, .inl t_now_signs_cells))] [(h_t, .inr (7, fX9 h_t_now h_t_beforeRead h_t_firstImage h_t_secondImage h_t_valley h_t_ages h_t_fronts h_t_outburst h_t_text t_firstKept t_secondKept)), (h_t_now, .inr (1, fX1 h_t_now_surfaces h_t_now_cliffs h_t_now_boulders h_t_now_scratches h_t_now_numbers h_t_now_facts h_t_now_signs h_t_now_areas h_t_now_heights t_now_ridges)), (h_t_now_signs, .inr (4, fX4 t_now_signs_limit h_t_now_signs_cells o1)), (h_t_now_signs_cells, .inl (cI, n_t_now_signs_cells, .inl o2))] (some (.int o0)) := by
  refine CM_of (cc := cX9_sign) (maxL := 5) (ret := (some .int)) (by decide +kernel) rfl (Nat.le_of_ble_eq_true rfl) ?_
  intro p e s m args below meth c A Q hx hb hr hml hown hts hlocks hA hK hP hD hS hE hQ hAe ls hl
  have hown : s.vm.findClass RX9 = some m.cls := hown
  have hl : lv_has ls 5 [(0, .ref h_t), (1, .int p1), (2, .int p2), (3, .int p3), (4, .int p4)] := hl
  unfold f_X9_sign at hf
  refine lv_iload_n hx hb dX9_sign_0 rfl (lv_at hl 1 rfl) ?_
  refine lv_iconst (v := (0 : Int32)) hx hb dX9_sign_1 (by decide) ?_
  refine lv_iconst (v := (2 : Int32)) hx hb dX9_sign_2 (by decide) ?_
  obtain ⟨r1, hg2, hf⟩ := bd1_some hf
  refine CM_callS (As := [.int p1, .int (0 : Int32), .int (2 : Int32)]) (rest := []) (wc := []) (w1 := []) (wr := [(h_t, .inr (7, fX9 h_t_now h_t_beforeRead h_t_firstImage h_t_secondImage h_t_valley h_t_ages h_t_fronts h_t_outburst h_t_text t_firstKept t_secondKept)), (h_t_now, .inr (1, fX1 h_t_now_surfaces h_t_now_cliffs h_t_now_boulders h_t_now_scratches h_t_now_numbers h_t_now_facts h_t_now_signs h_t_now_areas h_t_now_heights t_now_ridges)), (h_t_now_signs, .inr (4, fX4 t_now_signs_limit h_t_now_signs_cells t_now_signs_size)), (h_t_now_signs_cells, .inl (cI, n_t_now_signs_cells, .inl t_now_signs_cells))]) (wo := [(h_t, .inr (7, fX9 h_t_now h_t_beforeRead h_t_firstImage h_t_secondImage h_t_valley h_t_ages h_t_fronts h_t_outburst h_t_text t_firstKept t_secondKept)), (h_t_now, .inr (1, fX1 h_t_now_surfaces h_t_now_cliffs h_t_now_boulders h_t_now_scratches h_t_now_numbers h_t_now_facts h_t_now_signs h_t_now_areas h_t_now_heights t_now_ridges)), (h_t_now_signs, .inr (4, fX4 t_now_signs_limit h_t_now_signs_cells t_now_signs_size)), (h_t_now_signs_cells, .inl (cI, n_t_now_signs_cells, .inl t_now_signs_cells))]) (v := (some (.int r1))) ⟨hx, hb, hml, hown, hts⟩ (c_X9_within l dC dI cI cZ te p1 (0 : Int32) (2 : Int32) r1 hg2) (va_cwS 3 hts gX9_sign_X9_within rfl rfl rfl (by decide +kernel) ⟨Nat.le_of_ble_eq_true rfl, Nat.le_of_ble_eq_true rfl⟩) (kS_env te) hK hP hD hS hA hE [] [0, 1, 2, 3] [0, 1, 2, 3] rfl rfl (by decide) (by decide) (by decide) (by decide) rfl rfl hl.1 rfl (Nat.le_of_ble_eq_true rfl) dX9_sign_3 ⟨Nat.zero_le _, Nat.zero_le _⟩ (fun H locs hP hD hS => ?_)
  show W p l e rmX9_sign s m args below meth c H locs 0 0 Q (F0 m 6 ls [.int r1])
  refine lv_if_eq (tgt := 40) hx hb dX9_sign_6 (by decide) (fun c3 => ?_) (fun c3 => ?_)
  · replace hf := ifp c3 hf
    refine lv_bipush (v := (-2 : Int32)) hx hb dX9_sign_40 (by decide) ?_
    obtain ⟨rfl, rfl, rfl⟩ := inj3 hf
    subst hQ
    exact CM_iret hx hb hr rfl hlocks hAe hP hD hS dX9_sign_42
  · replace hf := ifn c3 hf
    refine lv_iload_n hx hb dX9_sign_9 rfl (lv_at hl 2 rfl) ?_
    refine lv_iconst (v := (0 : Int32)) hx hb dX9_sign_10 (by decide) ?_
    refine lv_bipush (v := (20 : Int32)) hx hb dX9_sign_11 (by decide) ?_
    obtain ⟨r4, hg5, hf⟩ := bd1_some hf
    refine CM_callS (As := [.int p2, .int (0 : Int32), .int (20 : Int32)]) (rest := []) (wc := []) (w1 := []) (wr := [(h_t, .inr (7, fX9 h_t_now h_t_beforeRead h_t_firstImage h_t_secondImage h_t_valley h_t_ages h_t_fronts h_t_outburst h_t_text t_firstKept t_secondKept)), (h_t_now, .inr (1, fX1 h_t_now_surfaces h_t_now_cliffs h_t_now_boulders h_t_now_scratches h_t_now_numbers h_t_now_facts h_t_now_signs h_t_now_areas h_t_now_heights t_now_ridges)), (h_t_now_signs, .inr (4, fX4 t_now_signs_limit h_t_now_signs_cells t_now_signs_size)), (h_t_now_signs_cells, .inl (cI, n_t_now_signs_cells, .inl t_now_signs_cells))]) (wo := [(h_t, .inr (7, fX9 h_t_now h_t_beforeRead h_t_firstImage h_t_secondImage h_t_valley h_t_ages h_t_fronts h_t_outburst h_t_text t_firstKept t_secondKept)), (h_t_now, .inr (1, fX1 h_t_now_surfaces h_t_now_cliffs h_t_now_boulders h_t_now_scratches h_t_now_numbers h_t_now_facts h_t_now_signs h_t_now_areas h_t_now_heights t_now_ridges)), (h_t_now_signs, .inr (4, fX4 t_now_signs_limit h_t_now_signs_cells t_now_signs_size)), (h_t_now_signs_cells, .inl (cI, n_t_now_signs_cells, .inl t_now_signs_cells))]) (v := (some (.int r4))) ⟨hx, hb, hml, hown, hts⟩ (c_X9_within l dC dI cI cZ te p2 (0 : Int32) (20 : Int32) r4 hg5) (va_cwS 3 hts gX9_sign_X9_within rfl rfl rfl (by decide +kernel) ⟨Nat.le_of_ble_eq_true rfl, Nat.le_of_ble_eq_true rfl⟩) (kS_env te) hK hP hD hS hA hE [] [0, 1, 2, 3] [0, 1, 2, 3] rfl rfl (by decide) (by decide) (by decide) (by decide) rfl rfl hl.1 rfl (Nat.le_of_ble_eq_true rfl) dX9_sign_13 ⟨Nat.zero_le _, Nat.zero_le _⟩ (fun H locs hP hD hS => ?_)
    show W p l e rmX9_sign s m args below meth c H locs 0 0 Q (F0 m 16 ls [.int r4])
    refine lv_if_eq (tgt := 40) hx hb dX9_sign_16 (by decide) (fun c6 => ?_) (fun c6 => ?_)
    · replace hf := ifp c6 hf
      refine lv_bipush (v := (-2 : Int32)) hx hb dX9_sign_40 (by decide) ?_
      obtain ⟨rfl, rfl, rfl⟩ := inj3 hf
      subst hQ
      exact CM_iret hx hb hr rfl hlocks hAe hP hD hS dX9_sign_42
    · replace hf := ifn c6 hf
      refine lv_iload_n hx hb dX9_sign_19 rfl (lv_at hl 3 rfl) ?_
      refine lv_iconst (v := (0 : Int32)) hx hb dX9_sign_20 (by decide) ?_
      refine lv_bipush (v := (39 : Int32)) hx hb dX9_sign_21 (by decide) ?_
      obtain ⟨r7, hg8, hf⟩ := bd1_some hf
      refine CM_callS (As := [.int p3, .int (0 : Int32), .int (39 : Int32)]) (rest := []) (wc := []) (w1 := []) (wr := [(h_t, .inr (7, fX9 h_t_now h_t_beforeRead h_t_firstImage h_t_secondImage h_t_valley h_t_ages h_t_fronts h_t_outburst h_t_text t_firstKept t_secondKept)), (h_t_now, .inr (1, fX1 h_t_now_surfaces h_t_now_cliffs h_t_now_boulders h_t_now_scratches h_t_now_numbers h_t_now_facts h_t_now_signs h_t_now_areas h_t_now_heights t_now_ridges)), (h_t_now_signs, .inr (4, fX4 t_now_signs_limit h_t_now_signs_cells t_now_signs_size)), (h_t_now_signs_cells, .inl (cI, n_t_now_signs_cells, .inl t_now_signs_cells))]) (wo := [(h_t, .inr (7, fX9 h_t_now h_t_beforeRead h_t_firstImage h_t_secondImage h_t_valley h_t_ages h_t_fronts h_t_outburst h_t_text t_firstKept t_secondKept)), (h_t_now, .inr (1, fX1 h_t_now_surfaces h_t_now_cliffs h_t_now_boulders h_t_now_scratches h_t_now_numbers h_t_now_facts h_t_now_signs h_t_now_areas h_t_now_heights t_now_ridges)), (h_t_now_signs, .inr (4, fX4 t_now_signs_limit h_t_now_signs_cells t_now_signs_size)), (h_t_now_signs_cells, .inl (cI, n_t_now_signs_cells, .inl t_now_signs_cells))]) (v := (some (.int r7))) ⟨hx, hb, hml, hown, hts⟩ (c_X9_within l dC dI cI cZ te p3 (0 : Int32) (39 : Int32) r7 hg8) (va_cwS 3 hts gX9_sign_X9_within rfl rfl rfl (by decide +kernel) ⟨Nat.le_of_ble_eq_true rfl, Nat.le_of_ble_eq_true rfl⟩) (kS_env te) hK hP hD hS hA hE [] [0, 1, 2, 3] [0, 1, 2, 3] rfl rfl (by decide) (by decide) (by decide) (by decide) rfl rfl hl.1 rfl (Nat.le_of_ble_eq_true rfl) dX9_sign_23 ⟨Nat.zero_le _, Nat.zero_le _⟩ (fun H locs hP hD hS => ?_)
      show W p l e rmX9_sign s m args below meth c H locs 0 0 Q (F0 m 26 ls [.int r7])
      refine lv_if_eq (tgt := 40) hx hb dX9_sign_26 (by decide) (fun c9 => ?_) (fun c9 => ?_)
      · replace hf := ifp c9 hf
        refine lv_bipush (v := (-2 : Int32)) hx hb dX9_sign_40 (by decide) ?_
        obtain ⟨rfl, rfl, rfl⟩ := inj3 hf
        subst hQ
        exact CM_iret hx hb hr rfl hlocks hAe hP hD hS dX9_sign_42
      · replace hf := ifn c9 hf
        refine lv_iload hx hb dX9_sign_29 (lv_at hl 4 rfl) ?_
        refine lv_iload_n hx hb dX9_sign_31 rfl (lv_at hl 3 rfl) ?_
        refine lv_bipush (v := (39 : Int32)) hx hb dX9_sign_32 (by decide) ?_
        obtain ⟨r10, hg11, hf⟩ := bd1_some hf
        refine CM_callS (As := [.int p4, .int p3, .int (39 : Int32)]) (rest := []) (wc := []) (w1 := []) (wr := [(h_t, .inr (7, fX9 h_t_now h_t_beforeRead h_t_firstImage h_t_secondImage h_t_valley h_t_ages h_t_fronts h_t_outburst h_t_text t_firstKept t_secondKept)), (h_t_now, .inr (1, fX1 h_t_now_surfaces h_t_now_cliffs h_t_now_boulders h_t_now_scratches h_t_now_numbers h_t_now_facts h_t_now_signs h_t_now_areas h_t_now_heights t_now_ridges)), (h_t_now_signs, .inr (4, fX4 t_now_signs_limit h_t_now_signs_cells t_now_signs_size)), (h_t_now_signs_cells, .inl (cI, n_t_now_signs_cells, .inl t_now_signs_cells))]) (wo := [(h_t, .inr (7, fX9 h_t_now h_t_beforeRead h_t_firstImage h_t_secondImage h_t_valley h_t_ages h_t_fronts h_t_outburst h_t_text t_firstKept t_secondKept)), (h_t_now, .inr (1, fX1 h_t_now_surfaces h_t_now_cliffs h_t_now_boulders h_t_now_scratches h_t_now_numbers h_t_now_facts h_t_now_signs h_t_now_areas h_t_now_heights t_now_ridges)), (h_t_now_signs, .inr (4, fX4 t_now_signs_limit h_t_now_signs_cells t_now_signs_size)), (h_t_now_signs_cells, .inl (cI, n_t_now_signs_cells, .inl t_now_signs_cells))]) (v := (some (.int r10))) ⟨hx, hb, hml, hown, hts⟩ (c_X9_within l dC dI cI cZ te p4 p3 (39 : Int32) r10 hg11) (va_cwS 3 hts gX9_sign_X9_within rfl rfl rfl (by decide +kernel) ⟨Nat.le_of_ble_eq_true rfl, Nat.le_of_ble_eq_true rfl⟩) (kS_env te) hK hP hD hS hA hE [] [0, 1, 2, 3] [0, 1, 2, 3] rfl rfl (by decide) (by decide) (by decide) (by decide) rfl rfl hl.1 rfl (Nat.le_of_ble_eq_true rfl) dX9_sign_34 ⟨Nat.zero_le _, Nat.zero_le _⟩ (fun H locs hP hD hS => ?_)
        show W p l e rmX9_sign s m args below meth c H locs 0 0 Q (F0 m 37 ls [.int r10])
        refine lv_if_ne (tgt := 43) hx hb dX9_sign_37 (by decide) (fun c12 => ?_) (fun c12 => ?_)
        · replace hf := ifn c12 hf
          refine lv_iload_n hx hb dX9_sign_43 rfl (lv_at hl 1 rfl) ?_
          refine lv_if_ne (tgt := 61) hx hb dX9_sign_44 (by decide) (fun c13 => ?_) (fun c13 => ?_)
          · replace hf := ifn c13 hf
            refine lv_aload_n hx hb dX9_sign_61 rfl (lv_at hl 0 rfl) ?_
            refine va_get (D := (dC, dI)) (ci := 7) (v := .ref h_t_now) (C := RX9) (T := TX9) (N := 11) hx hb hts kX9_sign_0 hown hK hP 0 rfl rfl 0 (by decide) (hts _ kX9_sign_1) (fun _ h9 => h9) rfl dX9_sign_62 ?_
            refine va_get (D := (dC, dI)) (ci := 1) (v := .ref h_t_now_signs) (C := RX1) (T := TX1) (N := 10) hx hb hts kX9_sign_2 hown hK hP 1 rfl rfl 6 (by decide) (hts _ kX9_sign_3) (fun _ h9 => h9) rfl dX9_sign_65 ?_
            refine lv_iload_n hx hb dX9_sign_68 rfl (lv_at hl 1 rfl) ?_
            refine lv_iload_n hx hb dX9_sign_69 rfl (lv_at hl 2 rfl) ?_
            refine lv_iload_n hx hb dX9_sign_70 rfl (lv_at hl 3 rfl) ?_
            refine lv_iload hx hb dX9_sign_71 (lv_at hl 4 rfl) ?_
            refine lv_iconst (v := (0 : Int32)) hx hb dX9_sign_73 (by decide) ?_
            obtain ⟨r14, x15, y16, hg17, hf⟩ := bd3_some hf
            refine CM_callV (C := RX4) (As := [.int p1, .int p2, .int p3, .int p4, .int (0 : Int32)]) (rest := []) (wc := [(h_t_now_signs, .inr (4, fX4 t_now_signs_limit h_t_now_signs_cells t_now_signs_size)), (h_t_now_signs_cells, .inl (cI, n_t_now_signs_cells, .inl t_now_signs_cells))]) (w1 := [(h_t_now_signs, .inr (4, fX4 t_now_signs_limit h_t_now_signs_cells x15)), (h_t_now_signs_cells, .inl (cI, n_t_now_signs_cells, .inl y16))]) (wr := [(h_t, .inr (7, fX9 h_t_now h_t_beforeRead h_t_firstImage h_t_secondImage h_t_valley h_t_ages h_t_fronts h_t_outburst h_t_text t_firstKept t_secondKept)), (h_t_now, .inr (1, fX1 h_t_now_surfaces h_t_now_cliffs h_t_now_boulders h_t_now_scratches h_t_now_numbers h_t_now_facts h_t_now_signs h_t_now_areas h_t_now_heights t_now_ridges))]) (wo := [(h_t, .inr (7, fX9 h_t_now h_t_beforeRead h_t_firstImage h_t_secondImage h_t_valley h_t_ages h_t_fronts h_t_outburst h_t_text t_firstKept t_secondKept)), (h_t_now, .inr (1, fX1 h_t_now_surfaces h_t_now_cliffs h_t_now_boulders h_t_now_scratches h_t_now_numbers h_t_now_facts h_t_now_signs h_t_now_areas h_t_now_heights t_now_ridges)), (h_t_now_signs, .inr (4, fX4 t_now_signs_limit h_t_now_signs_cells x15)), (h_t_now_signs_cells, .inl (cI, n_t_now_signs_cells, .inl y16))]) (v := (some (.int r14))) ⟨hx, hb, hml, hown, hts⟩ (c_X4_add l dC dI cI cZ te h_t_now_signs h_t_now_signs_cells t_now_signs_limit t_now_signs_size n_t_now_signs_cells t_now_signs_cells p1 p2 p3 p4 (0 : Int32) r14 x15 y16 hg17) (cwV 5 hts gX9_sign_X4_add rfl rfl rfl (by decide +kernel) ⟨Nat.le_of_ble_eq_true rfl, Nat.le_of_ble_eq_true rfl⟩) (kS_env te) hK hP hD hS hA hE [2, 3] [0, 1] [0, 1, 2, 3] rfl rfl (by decide) (by decide) (by decide) (by decide) rfl 2 4 rfl rfl rfl rfl hl.1 rfl (Nat.le_of_ble_eq_true rfl) dX9_sign_74 ⟨Nat.zero_le _, Nat.zero_le _⟩ (fun H locs hP hD hS => ?_)
            show W p l e rmX9_sign s m args below meth c H locs 0 0 Q (F0 m 77 ls [.int r14])
            obtain ⟨rfl, rfl, rfl⟩ := inj3 hf
            subst hQ
            exact CM_iret hx hb hr rfl hlocks hAe hP hD hS dX9_sign_77
          · replace hf := ifp c13 hf
            refine lv_aload_n hx hb dX9_sign_47 rfl (lv_at hl 0 rfl) ?_
            refine va_get (D := (dC, dI)) (ci := 7) (v := .ref h_t_now) (C := RX9) (T := TX9) (N := 11) hx hb hts kX9_sign_0 hown hK hP 0 rfl rfl 0 (by decide) (hts _ kX9_sign_1) (fun _ h9 => h9) rfl dX9_sign_48 ?_
            obtain ⟨r18, hg19, hf⟩ := bd1_some hf
            refine CM_callS (As := [.ref h_t_now]) (rest := []) (wc := [(h_t_now, .inr (1, fX1 h_t_now_surfaces h_t_now_cliffs h_t_now_boulders h_t_now_scratches h_t_now_numbers h_t_now_facts h_t_now_signs h_t_now_areas h_t_now_heights t_now_ridges)), (h_t_now_signs, .inr (4, fX4 t_now_signs_limit h_t_now_signs_cells t_now_signs_size)), (h_t_now_signs_cells, .inl (cI, n_t_now_signs_cells, .inl t_now_signs_cells))]) (w1 := [(h_t_now, .inr (1, fX1 h_t_now_surfaces h_t_now_cliffs h_t_now_boulders h_t_now_scratches h_t_now_numbers h_t_now_facts h_t_now_signs h_t_now_areas h_t_now_heights t_now_ridges)), (h_t_now_signs, .inr (4, fX4 t_now_signs_limit h_t_now_signs_cells t_now_signs_size)), (h_t_now_signs_cells, .inl (cI, n_t_now_signs_cells, .inl t_now_signs_cells))]) (wr := [(h_t, .inr (7, fX9 h_t_now h_t_beforeRead h_t_firstImage h_t_secondImage h_t_valley h_t_ages h_t_fronts h_t_outburst h_t_text t_firstKept t_secondKept))]) (wo := [(h_t, .inr (7, fX9 h_t_now h_t_beforeRead h_t_firstImage h_t_secondImage h_t_valley h_t_ages h_t_fronts h_t_outburst h_t_text t_firstKept t_secondKept)), (h_t_now, .inr (1, fX1 h_t_now_surfaces h_t_now_cliffs h_t_now_boulders h_t_now_scratches h_t_now_numbers h_t_now_facts h_t_now_signs h_t_now_areas h_t_now_heights t_now_ridges)), (h_t_now_signs, .inr (4, fX4 t_now_signs_limit h_t_now_signs_cells t_now_signs_size)), (h_t_now_signs_cells, .inl (cI, n_t_now_signs_cells, .inl t_now_signs_cells))]) (v := (some (.int r18))) ⟨hx, hb, hml, hown, hts⟩ (c_X2_countAt l dC dI cI cZ te h_t_now h_t_now_surfaces h_t_now_cliffs h_t_now_boulders h_t_now_scratches h_t_now_numbers h_t_now_facts h_t_now_signs h_t_now_areas h_t_now_heights h_t_now_signs_cells t_now_ridges t_now_signs_limit t_now_signs_size n_t_now_signs_cells t_now_signs_cells r18 hg19) (va_cwS 1 hts gX9_sign_X2_countAt rfl rfl rfl (by decide +kernel) ⟨Nat.le_of_ble_eq_true rfl, Nat.le_of_ble_eq_true rfl⟩) (kS_env te) hK hP hD hS hA hE [1, 2, 3] [0] [0, 1, 2, 3] rfl rfl (by decide) (by decide) (by decide) (by decide) rfl rfl hl.1 rfl (Nat.le_of_ble_eq_true rfl) dX9_sign_51 ⟨Nat.zero_le _, Nat.zero_le _⟩ (fun H locs hP hD hS => ?_)
            show W p l e rmX9_sign s m args below meth c H locs 0 0 Q (F0 m 54 ls [.int r18])
            refine lv_iconst (v := (5 : Int32)) hx hb dX9_sign_54 (by decide) ?_
            refine lv_icmp_lt (tgt := 61) hx hb dX9_sign_55 (by decide) (fun c20 => ?_) (fun c20 => ?_)
            · replace hf := ifp c20 hf
              refine lv_aload_n hx hb dX9_sign_61 rfl (lv_at hl 0 rfl) ?_
              refine va_get (D := (dC, dI)) (ci := 7) (v := .ref h_t_now) (C := RX9) (T := TX9) (N := 11) hx hb hts kX9_sign_0 hown hK hP 0 rfl rfl 0 (by decide) (hts _ kX9_sign_1) (fun _ h9 => h9) rfl dX9_sign_62 ?_
              refine va_get (D := (dC, dI)) (ci := 1) (v := .ref h_t_now_signs) (C := RX1) (T := TX1) (N := 10) hx hb hts kX9_sign_2 hown hK hP 1 rfl rfl 6 (by decide) (hts _ kX9_sign_3) (fun _ h9 => h9) rfl dX9_sign_65 ?_
              refine lv_iload_n hx hb dX9_sign_68 rfl (lv_at hl 1 rfl) ?_
              refine lv_iload_n hx hb dX9_sign_69 rfl (lv_at hl 2 rfl) ?_
              refine lv_iload_n hx hb dX9_sign_70 rfl (lv_at hl 3 rfl) ?_
              refine lv_iload hx hb dX9_sign_71 (lv_at hl 4 rfl) ?_
              refine lv_iconst (v := (0 : Int32)) hx hb dX9_sign_73 (by decide) ?_
              obtain ⟨r21, x22, y23, hg24, hf⟩ := bd3_some hf
              refine CM_callV (C := RX4) (As := [.int p1, .int p2, .int p3, .int p4, .int (0 : Int32)]) (rest := []) (wc := [(h_t_now_signs, .inr (4, fX4 t_now_signs_limit h_t_now_signs_cells t_now_signs_size)), (h_t_now_signs_cells, .inl (cI, n_t_now_signs_cells, .inl t_now_signs_cells))]) (w1 := [(h_t_now_signs, .inr (4, fX4 t_now_signs_limit h_t_now_signs_cells x22)), (h_t_now_signs_cells, .inl (cI, n_t_now_signs_cells, .inl y23))]) (wr := [(h_t, .inr (7, fX9 h_t_now h_t_beforeRead h_t_firstImage h_t_secondImage h_t_valley h_t_ages h_t_fronts h_t_outburst h_t_text t_firstKept t_secondKept)), (h_t_now, .inr (1, fX1 h_t_now_surfaces h_t_now_cliffs h_t_now_boulders h_t_now_scratches h_t_now_numbers h_t_now_facts h_t_now_signs h_t_now_areas h_t_now_heights t_now_ridges))]) (wo := [(h_t, .inr (7, fX9 h_t_now h_t_beforeRead h_t_firstImage h_t_secondImage h_t_valley h_t_ages h_t_fronts h_t_outburst h_t_text t_firstKept t_secondKept)), (h_t_now, .inr (1, fX1 h_t_now_surfaces h_t_now_cliffs h_t_now_boulders h_t_now_scratches h_t_now_numbers h_t_now_facts h_t_now_signs h_t_now_areas h_t_now_heights t_now_ridges)), (h_t_now_signs, .inr (4, fX4 t_now_signs_limit h_t_now_signs_cells x22)), (h_t_now_signs_cells, .inl (cI, n_t_now_signs_cells, .inl y23))]) (v := (some (.int r21))) ⟨hx, hb, hml, hown, hts⟩ (c_X4_add l dC dI cI cZ te h_t_now_signs h_t_now_signs_cells t_now_signs_limit t_now_signs_size n_t_now_signs_cells t_now_signs_cells p1 p2 p3 p4 (0 : Int32) r21 x22 y23 hg24) (cwV 5 hts gX9_sign_X4_add rfl rfl rfl (by decide +kernel) ⟨Nat.le_of_ble_eq_true rfl, Nat.le_of_ble_eq_true rfl⟩) (kS_env te) hK hP hD hS hA hE [2, 3] [0, 1] [0, 1, 2, 3] rfl rfl (by decide) (by decide) (by decide) (by decide) rfl 2 4 rfl rfl rfl rfl hl.1 rfl (Nat.le_of_ble_eq_true rfl) dX9_sign_74 ⟨Nat.zero_le _, Nat.zero_le _⟩ (fun H locs hP hD hS => ?_)
              show W p l e rmX9_sign s m args below meth c H locs 0 0 Q (F0 m 77 ls [.int r21])
              obtain ⟨rfl, rfl, rfl⟩ := inj3 hf
              subst hQ
              exact CM_iret hx hb hr rfl hlocks hAe hP hD hS dX9_sign_77
            · replace hf := ifn c20 hf
              refine lv_bipush (v := (-4 : Int32)) hx hb dX9_sign_58 (by decide) ?_
              obtain ⟨rfl, rfl, rfl⟩ := inj3 hf
              subst hQ
              exact CM_iret hx hb hr rfl hlocks hAe hP hD hS dX9_sign_60
        · replace hf := ifp c12 hf
          refine lv_bipush (v := (-2 : Int32)) hx hb dX9_sign_40 (by decide) ?_
          obtain ⟨rfl, rfl, rfl⟩ := inj3 hf
          subst hQ
          exact CM_iret hx hb hr rfl hlocks hAe hP hD hS dX9_sign_42
def rmX9_stand : Room := { frames := 5, cells := 0, slots := 0, locals := 115 }
set_option maxRecDepth 20000 in
theorem kX9_stand_0 : ∀ w ∈ u_ws RX9 TX9 11, w ∈ wsX9_stand := by decide +kernel
set_option maxRecDepth 20000 in
theorem kX9_stand_1 : Cond.fieldLink RX9 42 "StoneRiver" "fronts" "LStoneRiver$Fronts;" ∈ wsX9_stand := by decide +kernel
set_option maxRecDepth 20000 in
theorem kX9_stand_2 : Cond.fieldLink RX9 10 "StoneRiver" "now" "LStoneRiver$Found;" ∈ wsX9_stand := by decide +kernel
set_option maxHeartbeats 4000000 in
set_option maxRecDepth 100000 in
theorem c_X9_stand (l : Launch) (dC : Nat → ClassId) (dI : Nat → Nat → Nat) (cI cZ : ClassId) (te : Nat → Nat) (h_t : Nat) (h_t_now : Nat) (h_t_beforeRead : Nat) (h_t_firstImage : Nat) (h_t_secondImage : Nat) (h_t_valley : Nat) (h_t_ages : Nat) (h_t_fronts : Nat) (h_t_outburst : Nat) (h_t_text : Nat) (h_t_now_surfaces : Nat) (h_t_now_cliffs : Nat) (h_t_now_boulders : Nat) (h_t_now_scratches : Nat) (h_t_now_numbers : Nat) (h_t_now_facts : Nat) (h_t_now_signs : Nat) (h_t_now_areas : Nat) (h_t_now_heights : Nat) (h_t_fronts_wayOn : Nat) (h_t_fronts_lowest : Nat) (h_t_fronts_highest : Nat) (h_t_fronts_seenAt : Nat) (h_t_fronts_firstRow : Nat) (h_t_fronts_drawnFor : Nat) (h_t_now_signs_cells : Nat) (h_t_fronts_drawnFor_cells : Nat) (t_firstKept : Int32) (t_secondKept : Int32) (t_now_ridges : Int32) (t_now_numbers : Nat → Int32) (t_fronts_allSeen : Int32) (t_fronts_stride : Int32) (t_fronts_travel : Int32) (t_fronts_drawnStride : Int32) (t_fronts_lowest : Nat → Int32) (t_fronts_highest : Nat → Int32) (t_fronts_seenAt : Nat → Int32) (t_now_signs_limit : Int32) (t_now_signs_size : Int32) (n_t_now_signs_cells : Nat) (t_now_signs_cells : Nat → Int32) (t_fronts_wayOn : Nat → Int32) (t_fronts_firstRow : Nat → Int32) (t_fronts_drawnFor_limit : Int32) (t_fronts_drawnFor_size : Int32) (n_t_fronts_drawnFor_cells : Nat) (t_fronts_drawnFor_cells : Nat → Int32) (p1 : Int32) (o0 : Int32) (o1 : Int32) (o2 : Int32) (o3 : Int32) (o4 : Int32) (o5 : Nat → Int32) (o6 : Nat → Int32) (o7 : Nat → Int32) (o8 : Nat → Int32) (o9 : Nat → Int32) (o10 : Int32) (o11 : Nat → Int32) (hf : f_X9_stand t_now_numbers t_fronts_allSeen t_fronts_stride t_fronts_travel t_fronts_drawnStride t_fronts_lowest t_fronts_highest t_fronts_seenAt t_now_signs_size n_t_now_signs_cells t_now_signs_cells t_fronts_wayOn t_fronts_firstRow t_fronts_drawnFor_limit t_fronts_drawnFor_size n_t_fronts_drawnFor_cells t_fronts_drawnFor_cells p1 = some (o0, o1, o2, o3, o4, o5, o6, o7, o8, o9, o10, o11)) : CM l yX9_stand wsX9_stand rmX9_stand (kS te) dC dI cI cZ [.ref h_t, .int p1] [(h_t, .inr (7, fX9 h_t_now h_t_beforeRead h_t_firstImage h_t_secondImage h_t_valley h_t_ages h_t_fronts h_t_outburst h_t_text t_firstKept t_secondKept)), (h_t_now, .inr (1, fX1 h_t_now_surfaces h_t_now_cliffs h_t_now_boulders h_t_now_scratches h_t_now_numbers h_t_now_facts h_t_now_signs h_t_now_areas h_t_now_heights t_now_ridges)), (h_t_now_numbers, .inl (cI, 6, .inl t_now_numbers)), (h_t_fronts, .inr (2, fX2 h_t_fronts_wayOn h_t_fronts_lowest h_t_fronts_highest h_t_fronts_seenAt h_t_fronts_firstRow t_fronts_allSeen t_fronts_stride t_fronts_travel h_t_fronts_drawnFor t_fronts_drawnStride)), (h_t_fronts_lowest, .inl (cI, 40, .inl t_fronts_lowest)), (h_t_fronts_highest, .inl (cI, 40, .inl t_fronts_highest)), (h_t_fronts_seenAt, .inl (cI, 840, .inl t_fronts_seenAt)), (h_t_now_signs, .inr (4, fX4 t_now_signs_limit h_t_now_signs_cells t_now_signs_size)), (h_t_now_signs_cells, .inl (cI, n_t_now_signs_cells, .inl t_now_signs_cells)), (h_t_fronts_wayOn, .inl (cI, 26880, .inl t_fronts_wayOn)), (h_t_fronts_firstRow, .inl (cI, 40, .inl t_fronts_firstRow)), (h_t_fronts_drawnFor, .inr (4, fX4 t_fronts_drawnFor_limit h_t_fronts_drawnFor_cells t_fronts_drawnFor_size)), (h_t_fronts_drawnFor_cells, .inl (cI, n_t_fronts_drawnFor_cells, .inl t_fronts_drawnFor_cells))] [(h_t, .inr (7, fX9 h_t_now h_t_beforeRead h_t_firstImage h_t_secondImage h_t_valley h_t_ages h_t_fronts h_t_outburst h_t_text t_firstKept t_secondKept)), (h_t_now, .inr (1, fX1 h_t_now_surfaces h_t_now_cliffs h_t_now_boulders h_t_now_scratches h_t_now_numbers h_t_now_facts h_t_now_signs h_t_now_areas h_t_now_heights t_now_ridges)), (h_t_now_numbers, .inl (cI, 6, .inl t_now_numbers)), (h_t_fronts, .inr (2, fX2 h_t_fronts_wayOn h_t_fronts_lowest h_t_fronts_highest h_t_fronts_seenAt h_t_fronts_firstRow o1 o2 o3 h_t_fronts_drawnFor o4)), (h_t_fronts_lowest, .inl (cI, 40, .inl o5)), (h_t_fronts_highest, .inl (cI, 40, .inl o6)), (h_t_fronts_seenAt, .inl (cI, 840, .inl o7)), (h_t_now_signs, .inr (4, fX4 t_now_signs_limit h_t_now_signs_cells t_now_signs_size)), (h_t_now_signs_cells, .inl (cI, n_t_now_signs_cells, .inl t_now_signs_cells)), (h_t_fronts_wayOn, .inl (cI, 26880, .inl o8)), (h_t_fronts_firstRow, .inl (cI, 40, .inl o9)), (h_t_fronts_drawnFor, .inr (4, fX4 t_fronts_drawnFor_limit h_t_fronts_drawnFor_cells o10)), (h_t_fronts_drawnFor_cells, .inl (cI, n_t_fronts_drawnFor_cells, .inl o11))] (some (.int o0)) := by
  refine CM_of (cc := cX9_stand) (maxL := 2) (ret := (some .int)) (by decide +kernel) rfl (Nat.le_of_ble_eq_true rfl) ?_
  intro p e s m args below meth c A Q hx hb hr hml hown hts hlocks hA hK hP hD hS hE hQ hAe ls hl
  have hown : s.vm.findClass RX9 = some m.cls := hown
  have hl : lv_has ls 2 [(0, .ref h_t), (1, .int p1)] := hl
  unfold f_X9_stand at hf
  refine lv_iload_n hx hb dX9_stand_0 rfl (lv_at hl 1 rfl) ?_
  refine lv_iconst (v := (-1 : Int32)) hx hb dX9_stand_1 (by decide) ?_
  refine lv_icmp_eq (tgt := 18) hx hb dX9_stand_2 (by decide) (fun c1 => ?_) (fun c1 => ?_)
  · replace hf := ifp c1 hf
    refine lv_aload_n hx hb dX9_stand_18 rfl (lv_at hl 0 rfl) ?_
    refine va_get (D := (dC, dI)) (ci := 7) (v := .ref h_t_fronts) (C := RX9) (T := TX9) (N := 11) hx hb hts kX9_stand_0 hown hK hP 0 rfl rfl 6 (by decide) (hts _ kX9_stand_1) (fun _ h9 => h9) rfl dX9_stand_19 ?_
    refine lv_aload_n hx hb dX9_stand_22 rfl (lv_at hl 0 rfl) ?_
    refine va_get (D := (dC, dI)) (ci := 7) (v := .ref h_t_now) (C := RX9) (T := TX9) (N := 11) hx hb hts kX9_stand_0 hown hK hP 0 rfl rfl 0 (by decide) (hts _ kX9_stand_2) (fun _ h9 => h9) rfl dX9_stand_23 ?_
    obtain ⟨x2, x3, x4, x5, y6, y7, y8, y9, y10, x11, y12, hg13, hf⟩ := bd11_some hf
    refine CM_callV (C := RX2) (As := [.ref h_t_now]) (rest := []) (wc := [(h_t_now, .inr (1, fX1 h_t_now_surfaces h_t_now_cliffs h_t_now_boulders h_t_now_scratches h_t_now_numbers h_t_now_facts h_t_now_signs h_t_now_areas h_t_now_heights t_now_ridges)), (h_t_now_numbers, .inl (cI, 6, .inl t_now_numbers)), (h_t_fronts, .inr (2, fX2 h_t_fronts_wayOn h_t_fronts_lowest h_t_fronts_highest h_t_fronts_seenAt h_t_fronts_firstRow t_fronts_allSeen t_fronts_stride t_fronts_travel h_t_fronts_drawnFor t_fronts_drawnStride)), (h_t_fronts_lowest, .inl (cI, 40, .inl t_fronts_lowest)), (h_t_fronts_highest, .inl (cI, 40, .inl t_fronts_highest)), (h_t_fronts_seenAt, .inl (cI, 840, .inl t_fronts_seenAt)), (h_t_now_signs, .inr (4, fX4 t_now_signs_limit h_t_now_signs_cells t_now_signs_size)), (h_t_now_signs_cells, .inl (cI, n_t_now_signs_cells, .inl t_now_signs_cells)), (h_t_fronts_wayOn, .inl (cI, 26880, .inl t_fronts_wayOn)), (h_t_fronts_firstRow, .inl (cI, 40, .inl t_fronts_firstRow)), (h_t_fronts_drawnFor, .inr (4, fX4 t_fronts_drawnFor_limit h_t_fronts_drawnFor_cells t_fronts_drawnFor_size)), (h_t_fronts_drawnFor_cells, .inl (cI, n_t_fronts_drawnFor_cells, .inl t_fronts_drawnFor_cells))]) (w1 := [(h_t_now, .inr (1, fX1 h_t_now_surfaces h_t_now_cliffs h_t_now_boulders h_t_now_scratches h_t_now_numbers h_t_now_facts h_t_now_signs h_t_now_areas h_t_now_heights t_now_ridges)), (h_t_now_numbers, .inl (cI, 6, .inl t_now_numbers)), (h_t_fronts, .inr (2, fX2 h_t_fronts_wayOn h_t_fronts_lowest h_t_fronts_highest h_t_fronts_seenAt h_t_fronts_firstRow x2 x3 x4 h_t_fronts_drawnFor x5)), (h_t_fronts_lowest, .inl (cI, 40, .inl y6)), (h_t_fronts_highest, .inl (cI, 40, .inl y7)), (h_t_fronts_seenAt, .inl (cI, 840, .inl y8)), (h_t_now_signs, .inr (4, fX4 t_now_signs_limit h_t_now_signs_cells t_now_signs_size)), (h_t_now_signs_cells, .inl (cI, n_t_now_signs_cells, .inl t_now_signs_cells)), (h_t_fronts_wayOn, .inl (cI, 26880, .inl y9)), (h_t_fronts_firstRow, .inl (cI, 40, .inl y10)), (h_t_fronts_drawnFor, .inr (4, fX4 t_fronts_drawnFor_limit h_t_fronts_drawnFor_cells x11)), (h_t_fronts_drawnFor_cells, .inl (cI, n_t_fronts_drawnFor_cells, .inl y12))]) (wr := [(h_t, .inr (7, fX9 h_t_now h_t_beforeRead h_t_firstImage h_t_secondImage h_t_valley h_t_ages h_t_fronts h_t_outburst h_t_text t_firstKept t_secondKept))]) (wo := [(h_t, .inr (7, fX9 h_t_now h_t_beforeRead h_t_firstImage h_t_secondImage h_t_valley h_t_ages h_t_fronts h_t_outburst h_t_text t_firstKept t_secondKept)), (h_t_now, .inr (1, fX1 h_t_now_surfaces h_t_now_cliffs h_t_now_boulders h_t_now_scratches h_t_now_numbers h_t_now_facts h_t_now_signs h_t_now_areas h_t_now_heights t_now_ridges)), (h_t_now_numbers, .inl (cI, 6, .inl t_now_numbers)), (h_t_fronts, .inr (2, fX2 h_t_fronts_wayOn h_t_fronts_lowest h_t_fronts_highest h_t_fronts_seenAt h_t_fronts_firstRow x2 x3 x4 h_t_fronts_drawnFor x5)), (h_t_fronts_lowest, .inl (cI, 40, .inl y6)), (h_t_fronts_highest, .inl (cI, 40, .inl y7)), (h_t_fronts_seenAt, .inl (cI, 840, .inl y8)), (h_t_now_signs, .inr (4, fX4 t_now_signs_limit h_t_now_signs_cells t_now_signs_size)), (h_t_now_signs_cells, .inl (cI, n_t_now_signs_cells, .inl t_now_signs_cells)), (h_t_fronts_wayOn, .inl (cI, 26880, .inl y9)), (h_t_fronts_firstRow, .inl (cI, 40, .inl y10)), (h_t_fronts_drawnFor, .inr (4, fX4 t_fronts_drawnFor_limit h_t_fronts_drawnFor_cells x11)), (h_t_fronts_drawnFor_cells, .inl (cI, n_t_fronts_drawnFor_cells, .inl y12))]) (v := (none)) ⟨hx, hb, hml, hown, hts⟩ (c_X2_draw l dC dI cI cZ te h_t_fronts h_t_now h_t_now_surfaces h_t_now_cliffs h_t_now_boulders h_t_now_scratches h_t_now_numbers h_t_now_facts h_t_now_signs h_t_now_areas h_t_now_heights h_t_fronts_wayOn h_t_fronts_lowest h_t_fronts_highest h_t_fronts_seenAt h_t_fronts_firstRow h_t_fronts_drawnFor h_t_now_signs_cells h_t_fronts_drawnFor_cells t_now_ridges t_now_numbers t_fronts_allSeen t_fronts_stride t_fronts_travel t_fronts_drawnStride t_fronts_lowest t_fronts_highest t_fronts_seenAt t_now_signs_limit t_now_signs_size n_t_now_signs_cells t_now_signs_cells t_fronts_wayOn t_fronts_firstRow t_fronts_drawnFor_limit t_fronts_drawnFor_size n_t_fronts_drawnFor_cells t_fronts_drawnFor_cells x2 x3 x4 x5 y6 y7 y8 y9 y10 x11 y12 hg13) (cwV 1 hts gX9_stand_X2_draw rfl rfl rfl (by decide +kernel) ⟨Nat.le_of_ble_eq_true rfl, Nat.le_of_ble_eq_true rfl⟩) (kS_env te) hK hP hD hS hA hE [1, 2, 3, 4, 5, 6, 7, 8, 9, 10, 11, 12] [0] [0, 1, 2, 3, 4, 5, 6, 7, 8, 9, 10, 11, 12] rfl rfl (by decide) (by decide) (by decide) (by decide) rfl 3 2 rfl rfl rfl rfl hl.1 rfl (Nat.le_of_ble_eq_true rfl) dX9_stand_26 ⟨Nat.zero_le _, Nat.zero_le _⟩ (fun H locs hP hD hS => ?_)
    show W p l e rmX9_stand s m args below meth c H locs 0 0 Q (F0 m 29 ls [])
    refine lv_aload_n hx hb dX9_stand_29 rfl (lv_at hl 0 rfl) ?_
    refine va_get (D := (dC, dI)) (ci := 7) (v := .ref h_t_fronts) (C := RX9) (T := TX9) (N := 11) hx hb hts kX9_stand_0 hown hK hP 0 rfl rfl 6 (by decide) (hts _ kX9_stand_1) (fun _ h9 => h9) rfl dX9_stand_30 ?_
    obtain ⟨r14, hg15, hf⟩ := bd1_some hf
    refine CM_callV (C := RX2) (As := []) (rest := []) (wc := [(h_t_fronts, .inr (2, fX2 h_t_fronts_wayOn h_t_fronts_lowest h_t_fronts_highest h_t_fronts_seenAt h_t_fronts_firstRow x2 x3 x4 h_t_fronts_drawnFor x5))]) (w1 := [(h_t_fronts, .inr (2, fX2 h_t_fronts_wayOn h_t_fronts_lowest h_t_fronts_highest h_t_fronts_seenAt h_t_fronts_firstRow x2 x3 x4 h_t_fronts_drawnFor x5))]) (wr := [(h_t, .inr (7, fX9 h_t_now h_t_beforeRead h_t_firstImage h_t_secondImage h_t_valley h_t_ages h_t_fronts h_t_outburst h_t_text t_firstKept t_secondKept)), (h_t_now, .inr (1, fX1 h_t_now_surfaces h_t_now_cliffs h_t_now_boulders h_t_now_scratches h_t_now_numbers h_t_now_facts h_t_now_signs h_t_now_areas h_t_now_heights t_now_ridges)), (h_t_now_numbers, .inl (cI, 6, .inl t_now_numbers)), (h_t_fronts_lowest, .inl (cI, 40, .inl y6)), (h_t_fronts_highest, .inl (cI, 40, .inl y7)), (h_t_fronts_seenAt, .inl (cI, 840, .inl y8)), (h_t_now_signs, .inr (4, fX4 t_now_signs_limit h_t_now_signs_cells t_now_signs_size)), (h_t_now_signs_cells, .inl (cI, n_t_now_signs_cells, .inl t_now_signs_cells)), (h_t_fronts_wayOn, .inl (cI, 26880, .inl y9)), (h_t_fronts_firstRow, .inl (cI, 40, .inl y10)), (h_t_fronts_drawnFor, .inr (4, fX4 t_fronts_drawnFor_limit h_t_fronts_drawnFor_cells x11)), (h_t_fronts_drawnFor_cells, .inl (cI, n_t_fronts_drawnFor_cells, .inl y12))]) (wo := [(h_t, .inr (7, fX9 h_t_now h_t_beforeRead h_t_firstImage h_t_secondImage h_t_valley h_t_ages h_t_fronts h_t_outburst h_t_text t_firstKept t_secondKept)), (h_t_now, .inr (1, fX1 h_t_now_surfaces h_t_now_cliffs h_t_now_boulders h_t_now_scratches h_t_now_numbers h_t_now_facts h_t_now_signs h_t_now_areas h_t_now_heights t_now_ridges)), (h_t_now_numbers, .inl (cI, 6, .inl t_now_numbers)), (h_t_fronts, .inr (2, fX2 h_t_fronts_wayOn h_t_fronts_lowest h_t_fronts_highest h_t_fronts_seenAt h_t_fronts_firstRow x2 x3 x4 h_t_fronts_drawnFor x5)), (h_t_fronts_lowest, .inl (cI, 40, .inl y6)), (h_t_fronts_highest, .inl (cI, 40, .inl y7)), (h_t_fronts_seenAt, .inl (cI, 840, .inl y8)), (h_t_now_signs, .inr (4, fX4 t_now_signs_limit h_t_now_signs_cells t_now_signs_size)), (h_t_now_signs_cells, .inl (cI, n_t_now_signs_cells, .inl t_now_signs_cells)), (h_t_fronts_wayOn, .inl (cI, 26880, .inl y9)), (h_t_fronts_firstRow, .inl (cI, 40, .inl y10)), (h_t_fronts_drawnFor, .inr (4, fX4 t_fronts_drawnFor_limit h_t_fronts_drawnFor_cells x11)), (h_t_fronts_drawnFor_cells, .inl (cI, n_t_fronts_drawnFor_cells, .inl y12))]) (v := (some (.int r14))) ⟨hx, hb, hml, hown, hts⟩ (c_X2_travel l dC dI cI cZ te h_t_fronts h_t_fronts_wayOn h_t_fronts_lowest h_t_fronts_highest h_t_fronts_seenAt h_t_fronts_firstRow h_t_fronts_drawnFor x2 x3 x4 x5 r14 hg15) (cwV 0 hts gX9_stand_X2_travel rfl rfl rfl (by decide +kernel) ⟨Nat.le_of_ble_eq_true rfl, Nat.le_of_ble_eq_true rfl⟩) (kS_env te) hK hP hD hS hA hE [3] [0, 1, 2, 4, 5, 6, 7, 8, 9, 10, 11, 12] [0, 1, 2, 12, 3, 4, 5, 6, 7, 8, 9, 10, 11] rfl rfl (by decide) (by decide) (by decide) (by decide) rfl 3 2 rfl rfl rfl rfl hl.1 rfl (Nat.le_of_ble_eq_true rfl) dX9_stand_33 ⟨Nat.zero_le _, Nat.zero_le _⟩ (fun H locs hP hD hS => ?_)
    show W p l e rmX9_stand s m args below meth c H locs 0 0 Q (F0 m 36 ls [.int r14])
    refine lv_iconst (v := (-1 : Int32)) hx hb dX9_stand_36 (by decide) ?_
    refine lv_icmp_ne (tgt := 43) hx hb dX9_stand_37 (by decide) (fun c16 => ?_) (fun c16 => ?_)
    · replace hf := ifn c16 hf
      refine lv_iload_n hx hb dX9_stand_43 rfl (lv_at hl 1 rfl) ?_
      refine lv_iconst (v := (-1 : Int32)) hx hb dX9_stand_44 (by decide) ?_
      refine lv_icmp_ne (tgt := 58) hx hb dX9_stand_45 (by decide) (fun c17 => ?_) (fun c17 => ?_)
      · replace hf := ifn c17 hf
        refine lv_aload_n hx hb dX9_stand_58 rfl (lv_at hl 0 rfl) ?_
        refine va_get (D := (dC, dI)) (ci := 7) (v := .ref h_t_fronts) (C := RX9) (T := TX9) (N := 11) hx hb hts kX9_stand_0 hown hK hP 0 rfl rfl 6 (by decide) (hts _ kX9_stand_1) (fun _ h9 => h9) rfl dX9_stand_59 ?_
        refine lv_iload_n hx hb dX9_stand_62 rfl (lv_at hl 1 rfl) ?_
        obtain ⟨r18, hg19, hf⟩ := bd1_some hf
        refine CM_callV (C := RX2) (As := [.int p1]) (rest := []) (wc := [(h_t_fronts, .inr (2, fX2 h_t_fronts_wayOn h_t_fronts_lowest h_t_fronts_highest h_t_fronts_seenAt h_t_fronts_firstRow x2 x3 x4 h_t_fronts_drawnFor x5)), (h_t_fronts_firstRow, .inl (cI, 40, .inl y10))]) (w1 := [(h_t_fronts, .inr (2, fX2 h_t_fronts_wayOn h_t_fronts_lowest h_t_fronts_highest h_t_fronts_seenAt h_t_fronts_firstRow x2 x3 x4 h_t_fronts_drawnFor x5)), (h_t_fronts_firstRow, .inl (cI, 40, .inl y10))]) (wr := [(h_t, .inr (7, fX9 h_t_now h_t_beforeRead h_t_firstImage h_t_secondImage h_t_valley h_t_ages h_t_fronts h_t_outburst h_t_text t_firstKept t_secondKept)), (h_t_now, .inr (1, fX1 h_t_now_surfaces h_t_now_cliffs h_t_now_boulders h_t_now_scratches h_t_now_numbers h_t_now_facts h_t_now_signs h_t_now_areas h_t_now_heights t_now_ridges)), (h_t_now_numbers, .inl (cI, 6, .inl t_now_numbers)), (h_t_fronts_lowest, .inl (cI, 40, .inl y6)), (h_t_fronts_highest, .inl (cI, 40, .inl y7)), (h_t_fronts_seenAt, .inl (cI, 840, .inl y8)), (h_t_now_signs, .inr (4, fX4 t_now_signs_limit h_t_now_signs_cells t_now_signs_size)), (h_t_now_signs_cells, .inl (cI, n_t_now_signs_cells, .inl t_now_signs_cells)), (h_t_fronts_wayOn, .inl (cI, 26880, .inl y9)), (h_t_fronts_drawnFor, .inr (4, fX4 t_fronts_drawnFor_limit h_t_fronts_drawnFor_cells x11)), (h_t_fronts_drawnFor_cells, .inl (cI, n_t_fronts_drawnFor_cells, .inl y12))]) (wo := [(h_t, .inr (7, fX9 h_t_now h_t_beforeRead h_t_firstImage h_t_secondImage h_t_valley h_t_ages h_t_fronts h_t_outburst h_t_text t_firstKept t_secondKept)), (h_t_now, .inr (1, fX1 h_t_now_surfaces h_t_now_cliffs h_t_now_boulders h_t_now_scratches h_t_now_numbers h_t_now_facts h_t_now_signs h_t_now_areas h_t_now_heights t_now_ridges)), (h_t_now_numbers, .inl (cI, 6, .inl t_now_numbers)), (h_t_fronts, .inr (2, fX2 h_t_fronts_wayOn h_t_fronts_lowest h_t_fronts_highest h_t_fronts_seenAt h_t_fronts_firstRow x2 x3 x4 h_t_fronts_drawnFor x5)), (h_t_fronts_lowest, .inl (cI, 40, .inl y6)), (h_t_fronts_highest, .inl (cI, 40, .inl y7)), (h_t_fronts_seenAt, .inl (cI, 840, .inl y8)), (h_t_now_signs, .inr (4, fX4 t_now_signs_limit h_t_now_signs_cells t_now_signs_size)), (h_t_now_signs_cells, .inl (cI, n_t_now_signs_cells, .inl t_now_signs_cells)), (h_t_fronts_wayOn, .inl (cI, 26880, .inl y9)), (h_t_fronts_firstRow, .inl (cI, 40, .inl y10)), (h_t_fronts_drawnFor, .inr (4, fX4 t_fronts_drawnFor_limit h_t_fronts_drawnFor_cells x11)), (h_t_fronts_drawnFor_cells, .inl (cI, n_t_fronts_drawnFor_cells, .inl y12))]) (v := (some (.int r18))) ⟨hx, hb, hml, hown, hts⟩ (c_X2_frontIn l dC dI cI cZ te h_t_fronts h_t_fronts_wayOn h_t_fronts_lowest h_t_fronts_highest h_t_fronts_seenAt h_t_fronts_firstRow h_t_fronts_drawnFor x2 x3 x4 x5 y10 p1 r18 hg19) (cwV 1 hts gX9_stand_X2_frontIn rfl rfl rfl (by decide +kernel) ⟨Nat.le_of_ble_eq_true rfl, Nat.le_of_ble_eq_true rfl⟩) (kS_env te) hK hP hD hS hA hE [3, 10] [0, 1, 2, 4, 5, 6, 7, 8, 9, 11, 12] [0, 1, 2, 11, 3, 4, 5, 6, 7, 8, 12, 9, 10] rfl rfl (by decide) (by decide) (by decide) (by decide) rfl 3 2 rfl rfl rfl rfl hl.1 rfl (Nat.le_of_ble_eq_true rfl) dX9_stand_63 ⟨Nat.zero_le _, Nat.zero_le _⟩ (fun H locs hP hD hS => ?_)
        show W p l e rmX9_stand s m args below meth c H locs 0 0 Q (F0 m 66 ls [.int r18])
        obtain ⟨rfl, rfl, rfl, rfl, rfl, rfl, rfl, rfl, rfl, rfl, rfl, rfl⟩ := inj12 hf
        subst hQ
        exact CM_iret hx hb hr rfl hlocks hAe hP hD hS dX9_stand_66
      · replace hf := ifp c17 hf
        refine lv_aload_n hx hb dX9_stand_48 rfl (lv_at hl 0 rfl) ?_
        refine va_get (D := (dC, dI)) (ci := 7) (v := .ref h_t_fronts) (C := RX9) (T := TX9) (N := 11) hx hb hts kX9_stand_0 hown hK hP 0 rfl rfl 6 (by decide) (hts _ kX9_stand_1) (fun _ h9 => h9) rfl dX9_stand_49 ?_
        obtain ⟨r20, hg21, hf⟩ := bd1_some hf
        refine CM_callV (C := RX2) (As := []) (rest := []) (wc := [(h_t_fronts, .inr (2, fX2 h_t_fronts_wayOn h_t_fronts_lowest h_t_fronts_highest h_t_fronts_seenAt h_t_fronts_firstRow x2 x3 x4 h_t_fronts_drawnFor x5))]) (w1 := [(h_t_fronts, .inr (2, fX2 h_t_fronts_wayOn h_t_fronts_lowest h_t_fronts_highest h_t_fronts_seenAt h_t_fronts_firstRow x2 x3 x4 h_t_fronts_drawnFor x5))]) (wr := [(h_t, .inr (7, fX9 h_t_now h_t_beforeRead h_t_firstImage h_t_secondImage h_t_valley h_t_ages h_t_fronts h_t_outburst h_t_text t_firstKept t_secondKept)), (h_t_now, .inr (1, fX1 h_t_now_surfaces h_t_now_cliffs h_t_now_boulders h_t_now_scratches h_t_now_numbers h_t_now_facts h_t_now_signs h_t_now_areas h_t_now_heights t_now_ridges)), (h_t_now_numbers, .inl (cI, 6, .inl t_now_numbers)), (h_t_fronts_lowest, .inl (cI, 40, .inl y6)), (h_t_fronts_highest, .inl (cI, 40, .inl y7)), (h_t_fronts_seenAt, .inl (cI, 840, .inl y8)), (h_t_now_signs, .inr (4, fX4 t_now_signs_limit h_t_now_signs_cells t_now_signs_size)), (h_t_now_signs_cells, .inl (cI, n_t_now_signs_cells, .inl t_now_signs_cells)), (h_t_fronts_wayOn, .inl (cI, 26880, .inl y9)), (h_t_fronts_firstRow, .inl (cI, 40, .inl y10)), (h_t_fronts_drawnFor, .inr (4, fX4 t_fronts_drawnFor_limit h_t_fronts_drawnFor_cells x11)), (h_t_fronts_drawnFor_cells, .inl (cI, n_t_fronts_drawnFor_cells, .inl y12))]) (wo := [(h_t, .inr (7, fX9 h_t_now h_t_beforeRead h_t_firstImage h_t_secondImage h_t_valley h_t_ages h_t_fronts h_t_outburst h_t_text t_firstKept t_secondKept)), (h_t_now, .inr (1, fX1 h_t_now_surfaces h_t_now_cliffs h_t_now_boulders h_t_now_scratches h_t_now_numbers h_t_now_facts h_t_now_signs h_t_now_areas h_t_now_heights t_now_ridges)), (h_t_now_numbers, .inl (cI, 6, .inl t_now_numbers)), (h_t_fronts, .inr (2, fX2 h_t_fronts_wayOn h_t_fronts_lowest h_t_fronts_highest h_t_fronts_seenAt h_t_fronts_firstRow x2 x3 x4 h_t_fronts_drawnFor x5)), (h_t_fronts_lowest, .inl (cI, 40, .inl y6)), (h_t_fronts_highest, .inl (cI, 40, .inl y7)), (h_t_fronts_seenAt, .inl (cI, 840, .inl y8)), (h_t_now_signs, .inr (4, fX4 t_now_signs_limit h_t_now_signs_cells t_now_signs_size)), (h_t_now_signs_cells, .inl (cI, n_t_now_signs_cells, .inl t_now_signs_cells)), (h_t_fronts_wayOn, .inl (cI, 26880, .inl y9)), (h_t_fronts_firstRow, .inl (cI, 40, .inl y10)), (h_t_fronts_drawnFor, .inr (4, fX4 t_fronts_drawnFor_limit h_t_fronts_drawnFor_cells x11)), (h_t_fronts_drawnFor_cells, .inl (cI, n_t_fronts_drawnFor_cells, .inl y12))]) (v := (some (.int r20))) ⟨hx, hb, hml, hown, hts⟩ (c_X2_travel l dC dI cI cZ te h_t_fronts h_t_fronts_wayOn h_t_fronts_lowest h_t_fronts_highest h_t_fronts_seenAt h_t_fronts_firstRow h_t_fronts_drawnFor x2 x3 x4 x5 r20 hg21) (cwV 0 hts gX9_stand_X2_travel rfl rfl rfl (by decide +kernel) ⟨Nat.le_of_ble_eq_true rfl, Nat.le_of_ble_eq_true rfl⟩) (kS_env te) hK hP hD hS hA hE [3] [0, 1, 2, 4, 5, 6, 7, 8, 9, 10, 11, 12] [0, 1, 2, 12, 3, 4, 5, 6, 7, 8, 9, 10, 11] rfl rfl (by decide) (by decide) (by decide) (by decide) rfl 3 2 rfl rfl rfl rfl hl.1 rfl (Nat.le_of_ble_eq_true rfl) dX9_stand_52 ⟨Nat.zero_le _, Nat.zero_le _⟩ (fun H locs hP hD hS => ?_)
        show W p l e rmX9_stand s m args below meth c H locs 0 0 Q (F0 m 55 ls [.int r20])
        refine lv_goto (tgt := 66) hx hb dX9_stand_55 (by decide) ?_
        obtain ⟨rfl, rfl, rfl, rfl, rfl, rfl, rfl, rfl, rfl, rfl, rfl, rfl⟩ := inj12 hf
        subst hQ
        exact CM_iret hx hb hr rfl hlocks hAe hP hD hS dX9_stand_66
    · replace hf := ifp c16 hf
      refine lv_bipush (v := (-5 : Int32)) hx hb dX9_stand_40 (by decide) ?_
      obtain ⟨rfl, rfl, rfl, rfl, rfl, rfl, rfl, rfl, rfl, rfl, rfl, rfl⟩ := inj12 hf
      subst hQ
      exact CM_iret hx hb hr rfl hlocks hAe hP hD hS dX9_stand_42
  · replace hf := ifn c1 hf
    refine lv_iload_n hx hb dX9_stand_5 rfl (lv_at hl 1 rfl) ?_
    refine lv_iconst (v := (0 : Int32)) hx hb dX9_stand_6 (by decide) ?_
    refine lv_bipush (v := (39 : Int32)) hx hb dX9_stand_7 (by decide) ?_
    obtain ⟨r22, hg23, hf⟩ := bd1_some hf
    refine CM_callS (As := [.int p1, .int (0 : Int32), .int (39 : Int32)]) (rest := []) (wc := []) (w1 := []) (wr := [(h_t, .inr (7, fX9 h_t_now h_t_beforeRead h_t_firstImage h_t_secondImage h_t_valley h_t_ages h_t_fronts h_t_outburst h_t_text t_firstKept t_secondKept)), (h_t_now, .inr (1, fX1 h_t_now_surfaces h_t_now_cliffs h_t_now_boulders h_t_now_scratches h_t_now_numbers h_t_now_facts h_t_now_signs h_t_now_areas h_t_now_heights t_now_ridges)), (h_t_now_numbers, .inl (cI, 6, .inl t_now_numbers)), (h_t_fronts, .inr (2, fX2 h_t_fronts_wayOn h_t_fronts_lowest h_t_fronts_highest h_t_fronts_seenAt h_t_fronts_firstRow t_fronts_allSeen t_fronts_stride t_fronts_travel h_t_fronts_drawnFor t_fronts_drawnStride)), (h_t_fronts_lowest, .inl (cI, 40, .inl t_fronts_lowest)), (h_t_fronts_highest, .inl (cI, 40, .inl t_fronts_highest)), (h_t_fronts_seenAt, .inl (cI, 840, .inl t_fronts_seenAt)), (h_t_now_signs, .inr (4, fX4 t_now_signs_limit h_t_now_signs_cells t_now_signs_size)), (h_t_now_signs_cells, .inl (cI, n_t_now_signs_cells, .inl t_now_signs_cells)), (h_t_fronts_wayOn, .inl (cI, 26880, .inl t_fronts_wayOn)), (h_t_fronts_firstRow, .inl (cI, 40, .inl t_fronts_firstRow)), (h_t_fronts_drawnFor, .inr (4, fX4 t_fronts_drawnFor_limit h_t_fronts_drawnFor_cells t_fronts_drawnFor_size)), (h_t_fronts_drawnFor_cells, .inl (cI, n_t_fronts_drawnFor_cells, .inl t_fronts_drawnFor_cells))]) (wo := [(h_t, .inr (7, fX9 h_t_now h_t_beforeRead h_t_firstImage h_t_secondImage h_t_valley h_t_ages h_t_fronts h_t_outburst h_t_text t_firstKept t_secondKept)), (h_t_now, .inr (1, fX1 h_t_now_surfaces h_t_now_cliffs h_t_now_boulders h_t_now_scratches h_t_now_numbers h_t_now_facts h_t_now_signs h_t_now_areas h_t_now_heights t_now_ridges)), (h_t_now_numbers, .inl (cI, 6, .inl t_now_numbers)), (h_t_fronts, .inr (2, fX2 h_t_fronts_wayOn h_t_fronts_lowest h_t_fronts_highest h_t_fronts_seenAt h_t_fronts_firstRow t_fronts_allSeen t_fronts_stride t_fronts_travel h_t_fronts_drawnFor t_fronts_drawnStride)), (h_t_fronts_lowest, .inl (cI, 40, .inl t_fronts_lowest)), (h_t_fronts_highest, .inl (cI, 40, .inl t_fronts_highest)), (h_t_fronts_seenAt, .inl (cI, 840, .inl t_fronts_seenAt)), (h_t_now_signs, .inr (4, fX4 t_now_signs_limit h_t_now_signs_cells t_now_signs_size)), (h_t_now_signs_cells, .inl (cI, n_t_now_signs_cells, .inl t_now_signs_cells)), (h_t_fronts_wayOn, .inl (cI, 26880, .inl t_fronts_wayOn)), (h_t_fronts_firstRow, .inl (cI, 40, .inl t_fronts_firstRow)), (h_t_fronts_drawnFor, .inr (4, fX4 t_fronts_drawnFor_limit h_t_fronts_drawnFor_cells t_fronts_drawnFor_size)), (h_t_fronts_drawnFor_cells, .inl (cI, n_t_fronts_drawnFor_cells, .inl t_fronts_drawnFor_cells))]) (v := (some (.int r22))) ⟨hx, hb, hml, hown, hts⟩ (c_X9_within l dC dI cI cZ te p1 (0 : Int32) (39 : Int32) r22 hg23) (va_cwS 3 hts gX9_stand_X9_within rfl rfl rfl (by decide +kernel) ⟨Nat.le_of_ble_eq_true rfl, Nat.le_of_ble_eq_true rfl⟩) (kS_env te) hK hP hD hS hA hE [] [0, 1, 2, 3, 4, 5, 6, 7, 8, 9, 10, 11, 12] [0, 1, 2, 3, 4, 5, 6, 7, 8, 9, 10, 11, 12] rfl rfl (by decide) (by decide) (by decide) (by decide) rfl rfl hl.1 rfl (Nat.le_of_ble_eq_true rfl) dX9_stand_9 ⟨Nat.zero_le _, Nat.zero_le _⟩ (fun H locs hP hD hS => ?_)
    show W p l e rmX9_stand s m args below meth c H locs 0 0 Q (F0 m 12 ls [.int r22])
    refine lv_if_ne (tgt := 18) hx hb dX9_stand_12 (by decide) (fun c24 => ?_) (fun c24 => ?_)
    · replace hf := ifn c24 hf
      refine lv_aload_n hx hb dX9_stand_18 rfl (lv_at hl 0 rfl) ?_
      refine va_get (D := (dC, dI)) (ci := 7) (v := .ref h_t_fronts) (C := RX9) (T := TX9) (N := 11) hx hb hts kX9_stand_0 hown hK hP 0 rfl rfl 6 (by decide) (hts _ kX9_stand_1) (fun _ h9 => h9) rfl dX9_stand_19 ?_
      refine lv_aload_n hx hb dX9_stand_22 rfl (lv_at hl 0 rfl) ?_
      refine va_get (D := (dC, dI)) (ci := 7) (v := .ref h_t_now) (C := RX9) (T := TX9) (N := 11) hx hb hts kX9_stand_0 hown hK hP 0 rfl rfl 0 (by decide) (hts _ kX9_stand_2) (fun _ h9 => h9) rfl dX9_stand_23 ?_
      obtain ⟨x25, x26, x27, x28, y29, y30, y31, y32, y33, x34, y35, hg36, hf⟩ := bd11_some hf
      refine CM_callV (C := RX2) (As := [.ref h_t_now]) (rest := []) (wc := [(h_t_now, .inr (1, fX1 h_t_now_surfaces h_t_now_cliffs h_t_now_boulders h_t_now_scratches h_t_now_numbers h_t_now_facts h_t_now_signs h_t_now_areas h_t_now_heights t_now_ridges)), (h_t_now_numbers, .inl (cI, 6, .inl t_now_numbers)), (h_t_fronts, .inr (2, fX2 h_t_fronts_wayOn h_t_fronts_lowest h_t_fronts_highest h_t_fronts_seenAt h_t_fronts_firstRow t_fronts_allSeen t_fronts_stride t_fronts_travel h_t_fronts_drawnFor t_fronts_drawnStride)), (h_t_fronts_lowest, .inl (cI, 40, .inl t_fronts_lowest)), (h_t_fronts_highest, .inl (cI, 40, .inl t_fronts_highest)), (h_t_fronts_seenAt, .inl (cI, 840, .inl t_fronts_seenAt)), (h_t_now_signs, .inr (4, fX4 t_now_signs_limit h_t_now_signs_cells t_now_signs_size)), (h_t_now_signs_cells, .inl (cI, n_t_now_signs_cells, .inl t_now_signs_cells)), (h_t_fronts_wayOn, .inl (cI, 26880, .inl t_fronts_wayOn)), (h_t_fronts_firstRow, .inl (cI, 40, .inl t_fronts_firstRow)), (h_t_fronts_drawnFor, .inr (4, fX4 t_fronts_drawnFor_limit h_t_fronts_drawnFor_cells t_fronts_drawnFor_size)), (h_t_fronts_drawnFor_cells, .inl (cI, n_t_fronts_drawnFor_cells, .inl t_fronts_drawnFor_cells))]) (w1 := [(h_t_now, .inr (1, fX1 h_t_now_surfaces h_t_now_cliffs h_t_now_boulders h_t_now_scratches h_t_now_numbers h_t_now_facts h_t_now_signs h_t_now_areas h_t_now_heights t_now_ridges)), (h_t_now_numbers, .inl (cI, 6, .inl t_now_numbers)), (h_t_fronts, .inr (2, fX2 h_t_fronts_wayOn h_t_fronts_lowest h_t_fronts_highest h_t_fronts_seenAt h_t_fronts_firstRow x25 x26 x27 h_t_fronts_drawnFor x28)), (h_t_fronts_lowest, .inl (cI, 40, .inl y29)), (h_t_fronts_highest, .inl (cI, 40, .inl y30)), (h_t_fronts_seenAt, .inl (cI, 840, .inl y31)), (h_t_now_signs, .inr (4, fX4 t_now_signs_limit h_t_now_signs_cells t_now_signs_size)), (h_t_now_signs_cells, .inl (cI, n_t_now_signs_cells, .inl t_now_signs_cells)), (h_t_fronts_wayOn, .inl (cI, 26880, .inl y32)), (h_t_fronts_firstRow, .inl (cI, 40, .inl y33)), (h_t_fronts_drawnFor, .inr (4, fX4 t_fronts_drawnFor_limit h_t_fronts_drawnFor_cells x34)), (h_t_fronts_drawnFor_cells, .inl (cI, n_t_fronts_drawnFor_cells, .inl y35))]) (wr := [(h_t, .inr (7, fX9 h_t_now h_t_beforeRead h_t_firstImage h_t_secondImage h_t_valley h_t_ages h_t_fronts h_t_outburst h_t_text t_firstKept t_secondKept))]) (wo := [(h_t, .inr (7, fX9 h_t_now h_t_beforeRead h_t_firstImage h_t_secondImage h_t_valley h_t_ages h_t_fronts h_t_outburst h_t_text t_firstKept t_secondKept)), (h_t_now, .inr (1, fX1 h_t_now_surfaces h_t_now_cliffs h_t_now_boulders h_t_now_scratches h_t_now_numbers h_t_now_facts h_t_now_signs h_t_now_areas h_t_now_heights t_now_ridges)), (h_t_now_numbers, .inl (cI, 6, .inl t_now_numbers)), (h_t_fronts, .inr (2, fX2 h_t_fronts_wayOn h_t_fronts_lowest h_t_fronts_highest h_t_fronts_seenAt h_t_fronts_firstRow x25 x26 x27 h_t_fronts_drawnFor x28)), (h_t_fronts_lowest, .inl (cI, 40, .inl y29)), (h_t_fronts_highest, .inl (cI, 40, .inl y30)), (h_t_fronts_seenAt, .inl (cI, 840, .inl y31)), (h_t_now_signs, .inr (4, fX4 t_now_signs_limit h_t_now_signs_cells t_now_signs_size)), (h_t_now_signs_cells, .inl (cI, n_t_now_signs_cells, .inl t_now_signs_cells)), (h_t_fronts_wayOn, .inl (cI, 26880, .inl y32)), (h_t_fronts_firstRow, .inl (cI, 40, .inl y33)), (h_t_fronts_drawnFor, .inr (4, fX4 t_fronts_drawnFor_limit h_t_fronts_drawnFor_cells x34)), (h_t_fronts_drawnFor_cells, .inl (cI, n_t_fronts_drawnFor_cells, .inl y35))]) (v := (none)) ⟨hx, hb, hml, hown, hts⟩ (c_X2_draw l dC dI cI cZ te h_t_fronts h_t_now h_t_now_surfaces h_t_now_cliffs h_t_now_boulders h_t_now_scratches h_t_now_numbers h_t_now_facts h_t_now_signs h_t_now_areas h_t_now_heights h_t_fronts_wayOn h_t_fronts_lowest h_t_fronts_highest h_t_fronts_seenAt h_t_fronts_firstRow h_t_fronts_drawnFor h_t_now_signs_cells h_t_fronts_drawnFor_cells t_now_ridges t_now_numbers t_fronts_allSeen t_fronts_stride t_fronts_travel t_fronts_drawnStride t_fronts_lowest t_fronts_highest t_fronts_seenAt t_now_signs_limit t_now_signs_size n_t_now_signs_cells t_now_signs_cells t_fronts_wayOn t_fronts_firstRow t_fronts_drawnFor_limit t_fronts_drawnFor_size n_t_fronts_drawnFor_cells t_fronts_drawnFor_cells x25 x26 x27 x28 y29 y30 y31 y32 y33 x34 y35 hg36) (cwV 1 hts gX9_stand_X2_draw rfl rfl rfl (by decide +kernel) ⟨Nat.le_of_ble_eq_true rfl, Nat.le_of_ble_eq_true rfl⟩) (kS_env te) hK hP hD hS hA hE [1, 2, 3, 4, 5, 6, 7, 8, 9, 10, 11, 12] [0] [0, 1, 2, 3, 4, 5, 6, 7, 8, 9, 10, 11, 12] rfl rfl (by decide) (by decide) (by decide) (by decide) rfl 3 2 rfl rfl rfl rfl hl.1 rfl (Nat.le_of_ble_eq_true rfl) dX9_stand_26 ⟨Nat.zero_le _, Nat.zero_le _⟩ (fun H locs hP hD hS => ?_)
      show W p l e rmX9_stand s m args below meth c H locs 0 0 Q (F0 m 29 ls [])
      refine lv_aload_n hx hb dX9_stand_29 rfl (lv_at hl 0 rfl) ?_
      refine va_get (D := (dC, dI)) (ci := 7) (v := .ref h_t_fronts) (C := RX9) (T := TX9) (N := 11) hx hb hts kX9_stand_0 hown hK hP 0 rfl rfl 6 (by decide) (hts _ kX9_stand_1) (fun _ h9 => h9) rfl dX9_stand_30 ?_
      obtain ⟨r37, hg38, hf⟩ := bd1_some hf
      refine CM_callV (C := RX2) (As := []) (rest := []) (wc := [(h_t_fronts, .inr (2, fX2 h_t_fronts_wayOn h_t_fronts_lowest h_t_fronts_highest h_t_fronts_seenAt h_t_fronts_firstRow x25 x26 x27 h_t_fronts_drawnFor x28))]) (w1 := [(h_t_fronts, .inr (2, fX2 h_t_fronts_wayOn h_t_fronts_lowest h_t_fronts_highest h_t_fronts_seenAt h_t_fronts_firstRow x25 x26 x27 h_t_fronts_drawnFor x28))]) (wr := [(h_t, .inr (7, fX9 h_t_now h_t_beforeRead h_t_firstImage h_t_secondImage h_t_valley h_t_ages h_t_fronts h_t_outburst h_t_text t_firstKept t_secondKept)), (h_t_now, .inr (1, fX1 h_t_now_surfaces h_t_now_cliffs h_t_now_boulders h_t_now_scratches h_t_now_numbers h_t_now_facts h_t_now_signs h_t_now_areas h_t_now_heights t_now_ridges)), (h_t_now_numbers, .inl (cI, 6, .inl t_now_numbers)), (h_t_fronts_lowest, .inl (cI, 40, .inl y29)), (h_t_fronts_highest, .inl (cI, 40, .inl y30)), (h_t_fronts_seenAt, .inl (cI, 840, .inl y31)), (h_t_now_signs, .inr (4, fX4 t_now_signs_limit h_t_now_signs_cells t_now_signs_size)), (h_t_now_signs_cells, .inl (cI, n_t_now_signs_cells, .inl t_now_signs_cells)), (h_t_fronts_wayOn, .inl (cI, 26880, .inl y32)), (h_t_fronts_firstRow, .inl (cI, 40, .inl y33)), (h_t_fronts_drawnFor, .inr (4, fX4 t_fronts_drawnFor_limit h_t_fronts_drawnFor_cells x34)), (h_t_fronts_drawnFor_cells, .inl (cI, n_t_fronts_drawnFor_cells, .inl y35))]) (wo := [(h_t, .inr (7, fX9 h_t_now h_t_beforeRead h_t_firstImage h_t_secondImage h_t_valley h_t_ages h_t_fronts h_t_outburst h_t_text t_firstKept t_secondKept)), (h_t_now, .inr (1, fX1 h_t_now_surfaces h_t_now_cliffs h_t_now_boulders h_t_now_scratches h_t_now_numbers h_t_now_facts h_t_now_signs h_t_now_areas h_t_now_heights t_now_ridges)), (h_t_now_numbers, .inl (cI, 6, .inl t_now_numbers)), (h_t_fronts, .inr (2, fX2 h_t_fronts_wayOn h_t_fronts_lowest h_t_fronts_highest h_t_fronts_seenAt h_t_fronts_firstRow x25 x26 x27 h_t_fronts_drawnFor x28)), (h_t_fronts_lowest, .inl (cI, 40, .inl y29)), (h_t_fronts_highest, .inl (cI, 40, .inl y30)), (h_t_fronts_seenAt, .inl (cI, 840, .inl y31)), (h_t_now_signs, .inr (4, fX4 t_now_signs_limit h_t_now_signs_cells t_now_signs_size)), (h_t_now_signs_cells, .inl (cI, n_t_now_signs_cells, .inl t_now_signs_cells)), (h_t_fronts_wayOn, .inl (cI, 26880, .inl y32)), (h_t_fronts_firstRow, .inl (cI, 40, .inl y33)), (h_t_fronts_drawnFor, .inr (4, fX4 t_fronts_drawnFor_limit h_t_fronts_drawnFor_cells x34)), (h_t_fronts_drawnFor_cells, .inl (cI, n_t_fronts_drawnFor_cells, .inl y35))]) (v := (some (.int r37))) ⟨hx, hb, hml, hown, hts⟩ (c_X2_travel l dC dI cI cZ te h_t_fronts h_t_fronts_wayOn h_t_fronts_lowest h_t_fronts_highest h_t_fronts_seenAt h_t_fronts_firstRow h_t_fronts_drawnFor x25 x26 x27 x28 r37 hg38) (cwV 0 hts gX9_stand_X2_travel rfl rfl rfl (by decide +kernel) ⟨Nat.le_of_ble_eq_true rfl, Nat.le_of_ble_eq_true rfl⟩) (kS_env te) hK hP hD hS hA hE [3] [0, 1, 2, 4, 5, 6, 7, 8, 9, 10, 11, 12] [0, 1, 2, 12, 3, 4, 5, 6, 7, 8, 9, 10, 11] rfl rfl (by decide) (by decide) (by decide) (by decide) rfl 3 2 rfl rfl rfl rfl hl.1 rfl (Nat.le_of_ble_eq_true rfl) dX9_stand_33 ⟨Nat.zero_le _, Nat.zero_le _⟩ (fun H locs hP hD hS => ?_)
      show W p l e rmX9_stand s m args below meth c H locs 0 0 Q (F0 m 36 ls [.int r37])
      refine lv_iconst (v := (-1 : Int32)) hx hb dX9_stand_36 (by decide) ?_
      refine lv_icmp_ne (tgt := 43) hx hb dX9_stand_37 (by decide) (fun c39 => ?_) (fun c39 => ?_)
      · replace hf := ifn c39 hf
        refine lv_iload_n hx hb dX9_stand_43 rfl (lv_at hl 1 rfl) ?_
        refine lv_iconst (v := (-1 : Int32)) hx hb dX9_stand_44 (by decide) ?_
        refine lv_icmp_ne (tgt := 58) hx hb dX9_stand_45 (by decide) (fun c40 => ?_) (fun c40 => ?_)
        · replace hf := ifn c40 hf
          refine lv_aload_n hx hb dX9_stand_58 rfl (lv_at hl 0 rfl) ?_
          refine va_get (D := (dC, dI)) (ci := 7) (v := .ref h_t_fronts) (C := RX9) (T := TX9) (N := 11) hx hb hts kX9_stand_0 hown hK hP 0 rfl rfl 6 (by decide) (hts _ kX9_stand_1) (fun _ h9 => h9) rfl dX9_stand_59 ?_
          refine lv_iload_n hx hb dX9_stand_62 rfl (lv_at hl 1 rfl) ?_
          obtain ⟨r41, hg42, hf⟩ := bd1_some hf
          refine CM_callV (C := RX2) (As := [.int p1]) (rest := []) (wc := [(h_t_fronts, .inr (2, fX2 h_t_fronts_wayOn h_t_fronts_lowest h_t_fronts_highest h_t_fronts_seenAt h_t_fronts_firstRow x25 x26 x27 h_t_fronts_drawnFor x28)), (h_t_fronts_firstRow, .inl (cI, 40, .inl y33))]) (w1 := [(h_t_fronts, .inr (2, fX2 h_t_fronts_wayOn h_t_fronts_lowest h_t_fronts_highest h_t_fronts_seenAt h_t_fronts_firstRow x25 x26 x27 h_t_fronts_drawnFor x28)), (h_t_fronts_firstRow, .inl (cI, 40, .inl y33))]) (wr := [(h_t, .inr (7, fX9 h_t_now h_t_beforeRead h_t_firstImage h_t_secondImage h_t_valley h_t_ages h_t_fronts h_t_outburst h_t_text t_firstKept t_secondKept)), (h_t_now, .inr (1, fX1 h_t_now_surfaces h_t_now_cliffs h_t_now_boulders h_t_now_scratches h_t_now_numbers h_t_now_facts h_t_now_signs h_t_now_areas h_t_now_heights t_now_ridges)), (h_t_now_numbers, .inl (cI, 6, .inl t_now_numbers)), (h_t_fronts_lowest, .inl (cI, 40, .inl y29)), (h_t_fronts_highest, .inl (cI, 40, .inl y30)), (h_t_fronts_seenAt, .inl (cI, 840, .inl y31)), (h_t_now_signs, .inr (4, fX4 t_now_signs_limit h_t_now_signs_cells t_now_signs_size)), (h_t_now_signs_cells, .inl (cI, n_t_now_signs_cells, .inl t_now_signs_cells)), (h_t_fronts_wayOn, .inl (cI, 26880, .inl y32)), (h_t_fronts_drawnFor, .inr (4, fX4 t_fronts_drawnFor_limit h_t_fronts_drawnFor_cells x34)), (h_t_fronts_drawnFor_cells, .inl (cI, n_t_fronts_drawnFor_cells, .inl y35))]) (wo := [(h_t, .inr (7, fX9 h_t_now h_t_beforeRead h_t_firstImage h_t_secondImage h_t_valley h_t_ages h_t_fronts h_t_outburst h_t_text t_firstKept t_secondKept)), (h_t_now, .inr (1, fX1 h_t_now_surfaces h_t_now_cliffs h_t_now_boulders h_t_now_scratches h_t_now_numbers h_t_now_facts h_t_now_signs h_t_now_areas h_t_now_heights t_now_ridges)), (h_t_now_numbers, .inl (cI, 6, .inl t_now_numbers)), (h_t_fronts, .inr (2, fX2 h_t_fronts_wayOn h_t_fronts_lowest h_t_fronts_highest h_t_fronts_seenAt h_t_fronts_firstRow x25 x26 x27 h_t_fronts_drawnFor x28)), (h_t_fronts_lowest, .inl (cI, 40, .inl y29)), (h_t_fronts_highest, .inl (cI, 40, .inl y30)), (h_t_fronts_seenAt, .inl (cI, 840, .inl y31)), (h_t_now_signs, .inr (4, fX4 t_now_signs_limit h_t_now_signs_cells t_now_signs_size)), (h_t_now_signs_cells, .inl (cI, n_t_now_signs_cells, .inl t_now_signs_cells)), (h_t_fronts_wayOn, .inl (cI, 26880, .inl y32)), (h_t_fronts_firstRow, .inl (cI, 40, .inl y33)), (h_t_fronts_drawnFor, .inr (4, fX4 t_fronts_drawnFor_limit h_t_fronts_drawnFor_cells x34)), (h_t_fronts_drawnFor_cells, .inl (cI, n_t_fronts_drawnFor_cells, .inl y35))]) (v := (some (.int r41))) ⟨hx, hb, hml, hown, hts⟩ (c_X2_frontIn l dC dI cI cZ te h_t_fronts h_t_fronts_wayOn h_t_fronts_lowest h_t_fronts_highest h_t_fronts_seenAt h_t_fronts_firstRow h_t_fronts_drawnFor x25 x26 x27 x28 y33 p1 r41 hg42) (cwV 1 hts gX9_stand_X2_frontIn rfl rfl rfl (by decide +kernel) ⟨Nat.le_of_ble_eq_true rfl, Nat.le_of_ble_eq_true rfl⟩) (kS_env te) hK hP hD hS hA hE [3, 10] [0, 1, 2, 4, 5, 6, 7, 8, 9, 11, 12] [0, 1, 2, 11, 3, 4, 5, 6, 7, 8, 12, 9, 10] rfl rfl (by decide) (by decide) (by decide) (by decide) rfl 3 2 rfl rfl rfl rfl hl.1 rfl (Nat.le_of_ble_eq_true rfl) dX9_stand_63 ⟨Nat.zero_le _, Nat.zero_le _⟩ (fun H locs hP hD hS => ?_)
          show W p l e rmX9_stand s m args below meth c H locs 0 0 Q (F0 m 66 ls [.int r41])
          obtain ⟨rfl, rfl, rfl, rfl, rfl, rfl, rfl, rfl, rfl, rfl, rfl, rfl⟩ := inj12 hf
          subst hQ
          exact CM_iret hx hb hr rfl hlocks hAe hP hD hS dX9_stand_66
        · replace hf := ifp c40 hf
          refine lv_aload_n hx hb dX9_stand_48 rfl (lv_at hl 0 rfl) ?_
          refine va_get (D := (dC, dI)) (ci := 7) (v := .ref h_t_fronts) (C := RX9) (T := TX9) (N := 11) hx hb hts kX9_stand_0 hown hK hP 0 rfl rfl 6 (by decide) (hts _ kX9_stand_1) (fun _ h9 => h9) rfl dX9_stand_49 ?_
          obtain ⟨r43, hg44, hf⟩ := bd1_some hf
          refine CM_callV (C := RX2) (As := []) (rest := []) (wc := [(h_t_fronts, .inr (2, fX2 h_t_fronts_wayOn h_t_fronts_lowest h_t_fronts_highest h_t_fronts_seenAt h_t_fronts_firstRow x25 x26 x27 h_t_fronts_drawnFor x28))]) (w1 := [(h_t_fronts, .inr (2, fX2 h_t_fronts_wayOn h_t_fronts_lowest h_t_fronts_highest h_t_fronts_seenAt h_t_fronts_firstRow x25 x26 x27 h_t_fronts_drawnFor x28))]) (wr := [(h_t, .inr (7, fX9 h_t_now h_t_beforeRead h_t_firstImage h_t_secondImage h_t_valley h_t_ages h_t_fronts h_t_outburst h_t_text t_firstKept t_secondKept)), (h_t_now, .inr (1, fX1 h_t_now_surfaces h_t_now_cliffs h_t_now_boulders h_t_now_scratches h_t_now_numbers h_t_now_facts h_t_now_signs h_t_now_areas h_t_now_heights t_now_ridges)), (h_t_now_numbers, .inl (cI, 6, .inl t_now_numbers)), (h_t_fronts_lowest, .inl (cI, 40, .inl y29)), (h_t_fronts_highest, .inl (cI, 40, .inl y30)), (h_t_fronts_seenAt, .inl (cI, 840, .inl y31)), (h_t_now_signs, .inr (4, fX4 t_now_signs_limit h_t_now_signs_cells t_now_signs_size)), (h_t_now_signs_cells, .inl (cI, n_t_now_signs_cells, .inl t_now_signs_cells)), (h_t_fronts_wayOn, .inl (cI, 26880, .inl y32)), (h_t_fronts_firstRow, .inl (cI, 40, .inl y33)), (h_t_fronts_drawnFor, .inr (4, fX4 t_fronts_drawnFor_limit h_t_fronts_drawnFor_cells x34)), (h_t_fronts_drawnFor_cells, .inl (cI, n_t_fronts_drawnFor_cells, .inl y35))]) (wo := [(h_t, .inr (7, fX9 h_t_now h_t_beforeRead h_t_firstImage h_t_secondImage h_t_valley h_t_ages h_t_fronts h_t_outburst h_t_text t_firstKept t_secondKept)), (h_t_now, .inr (1, fX1 h_t_now_surfaces h_t_now_cliffs h_t_now_boulders h_t_now_scratches h_t_now_numbers h_t_now_facts h_t_now_signs h_t_now_areas h_t_now_heights t_now_ridges)), (h_t_now_numbers, .inl (cI, 6, .inl t_now_numbers)), (h_t_fronts, .inr (2, fX2 h_t_fronts_wayOn h_t_fronts_lowest h_t_fronts_highest h_t_fronts_seenAt h_t_fronts_firstRow x25 x26 x27 h_t_fronts_drawnFor x28)), (h_t_fronts_lowest, .inl (cI, 40, .inl y29)), (h_t_fronts_highest, .inl (cI, 40, .inl y30)), (h_t_fronts_seenAt, .inl (cI, 840, .inl y31)), (h_t_now_signs, .inr (4, fX4 t_now_signs_limit h_t_now_signs_cells t_now_signs_size)), (h_t_now_signs_cells, .inl (cI, n_t_now_signs_cells, .inl t_now_signs_cells)), (h_t_fronts_wayOn, .inl (cI, 26880, .inl y32)), (h_t_fronts_firstRow, .inl (cI, 40, .inl y33)), (h_t_fronts_drawnFor, .inr (4, fX4 t_fronts_drawnFor_limit h_t_fronts_drawnFor_cells x34)), (h_t_fronts_drawnFor_cells, .inl (cI, n_t_fronts_drawnFor_cells, .inl y35))]) (v := (some (.int r43))) ⟨hx, hb, hml, hown, hts⟩ (c_X2_travel l dC dI cI cZ te h_t_fronts h_t_fronts_wayOn h_t_fronts_lowest h_t_fronts_highest h_t_fronts_seenAt h_t_fronts_firstRow h_t_fronts_drawnFor x25 x26 x27 x28 r43 hg44) (cwV 0 hts gX9_stand_X2_travel rfl rfl rfl (by decide +kernel) ⟨Nat.le_of_ble_eq_true rfl, Nat.le_of_ble_eq_true rfl⟩) (kS_env te) hK hP hD hS hA hE [3] [0, 1, 2, 4, 5, 6, 7, 8, 9, 10, 11, 12] [0, 1, 2, 12, 3, 4, 5, 6, 7, 8, 9, 10, 11] rfl rfl (by decide) (by decide) (by decide) (by decide) rfl 3 2 rfl rfl rfl rfl hl.1 rfl (Nat.le_of_ble_eq_true rfl) dX9_stand_52 ⟨Nat.zero_le _, Nat.zero_le _⟩ (fun H locs hP hD hS => ?_)
          show W p l e rmX9_stand s m args below meth c H locs 0 0 Q (F0 m 55 ls [.int r43])
          refine lv_goto (tgt := 66) hx hb dX9_stand_55 (by decide) ?_
          obtain ⟨rfl, rfl, rfl, rfl, rfl, rfl, rfl, rfl, rfl, rfl, rfl, rfl⟩ := inj12 hf
          subst hQ
          exact CM_iret hx hb hr rfl hlocks hAe hP hD hS dX9_stand_66
      · replace hf := ifp c39 hf
        refine lv_bipush (v := (-5 : Int32)) hx hb dX9_stand_40 (by decide) ?_
        obtain ⟨rfl, rfl, rfl, rfl, rfl, rfl, rfl, rfl, rfl, rfl, rfl, rfl⟩ := inj12 hf
        subst hQ
        exact CM_iret hx hb hr rfl hlocks hAe hP hD hS dX9_stand_42
    · replace hf := ifp c24 hf
      refine lv_bipush (v := (-10 : Int32)) hx hb dX9_stand_15 (by decide) ?_
      obtain ⟨rfl, rfl, rfl, rfl, rfl, rfl, rfl, rfl, rfl, rfl, rfl, rfl⟩ := inj12 hf
      subst hQ
      exact CM_iret hx hb hr rfl hlocks hAe hP hD hS dX9_stand_17
def rmX9_isLevel : Room := { frames := 1, cells := 0, slots := 0, locals := 22 }
set_option maxHeartbeats 4000000 in
set_option maxRecDepth 100000 in
theorem c_X9_isLevel (l : Launch) (dC : Nat → ClassId) (dI : Nat → Nat → Nat) (cI cZ : ClassId) (te : Nat → Nat) (p1 : Int32) (o0 : Int32) (hf : f_X9_isLevel p1 = some o0) : CM l yX9_isLevel wsX9_isLevel rmX9_isLevel (kS te) dC dI cI cZ [.int p1] [] [] (some (.int o0)) := by
  refine CM_of (cc := cX9_isLevel) (maxL := 1) (ret := (some .boolean)) (by decide +kernel) rfl (Nat.le_of_ble_eq_true rfl) ?_
  intro p e s m args below meth c A Q hx hb hr hml hown hts hlocks hA hK hP hD hS hE hQ hAe ls hl
  have hown : s.vm.findClass RX9 = some m.cls := hown
  have hl : lv_has ls 1 [(0, .int p1)] := hl
  unfold f_X9_isLevel at hf
  refine lv_iload_n hx hb dX9_isLevel_0 rfl (lv_at hl 0 rfl) ?_
  refine lv_iconst (v := (0 : Int32)) hx hb dX9_isLevel_1 (by decide) ?_
  refine lv_bipush (v := (19 : Int32)) hx hb dX9_isLevel_2 (by decide) ?_
  obtain ⟨r1, hg2, hf⟩ := bd1_some hf
  refine CM_callS (As := [.int p1, .int (0 : Int32), .int (19 : Int32)]) (rest := []) (wc := []) (w1 := []) (wr := []) (wo := []) (v := (some (.int r1))) ⟨hx, hb, hml, hown, hts⟩ (c_X9_within l dC dI cI cZ te p1 (0 : Int32) (19 : Int32) r1 hg2) (va_cwS 3 hts gX9_isLevel_X9_within rfl rfl rfl (by decide +kernel) ⟨Nat.le_of_ble_eq_true rfl, Nat.le_of_ble_eq_true rfl⟩) (kS_env te) hK hP hD hS hA hE [] [] [] rfl rfl (by decide) (by decide) (by decide) (by decide) rfl rfl hl.1 rfl (Nat.le_of_ble_eq_true rfl) dX9_isLevel_4 ⟨Nat.zero_le _, Nat.zero_le _⟩ (fun H locs hP hD hS => ?_)
  show W p l e rmX9_isLevel s m args below meth c H locs 0 0 Q (F0 m 7 ls [.int r1])
  obtain ⟨g3, hf⟩ := chk_some hf
  obtain rfl := inj1 hf
  subst hQ
  exact CM_iret hx hb hr (gz_n g3) hlocks hAe hP hD hS dX9_isLevel_7
def rmX9_area : Room := { frames := 2, cells := 0, slots := 0, locals := 42 }
set_option maxRecDepth 20000 in
theorem kX9_area_0 : ∀ w ∈ u_ws RX9 TX9 11, w ∈ wsX9_area := by decide +kernel
set_option maxRecDepth 20000 in
theorem kX9_area_1 : Cond.fieldLink RX9 10 "StoneRiver" "now" "LStoneRiver$Found;" ∈ wsX9_area := by decide +kernel
set_option maxRecDepth 20000 in
theorem kX9_area_2 : ∀ w ∈ u_ws RX1 TX1 10, w ∈ wsX9_area := by decide +kernel
set_option maxRecDepth 20000 in
theorem kX9_area_3 : Cond.fieldLink RX9 211 "StoneRiver$Found" "areas" "[I" ∈ wsX9_area := by decide +kernel
set_option maxHeartbeats 4000000 in
set_option maxRecDepth 100000 in
theorem c_X9_area (l : Launch) (dC : Nat → ClassId) (dI : Nat → Nat → Nat) (cI cZ : ClassId) (te : Nat → Nat) (h_t : Nat) (h_t_now : Nat) (h_t_beforeRead : Nat) (h_t_firstImage : Nat) (h_t_secondImage : Nat) (h_t_valley : Nat) (h_t_ages : Nat) (h_t_fronts : Nat) (h_t_outburst : Nat) (h_t_text : Nat) (h_t_now_surfaces : Nat) (h_t_now_cliffs : Nat) (h_t_now_boulders : Nat) (h_t_now_scratches : Nat) (h_t_now_numbers : Nat) (h_t_now_facts : Nat) (h_t_now_signs : Nat) (h_t_now_areas : Nat) (h_t_now_heights : Nat) (t_firstKept : Int32) (t_secondKept : Int32) (t_now_ridges : Int32) (t_now_areas : Nat → Int32) (p1 : Int32) (p2 : Int32) (o0 : Int32) (o1 : Nat → Int32) (hf : f_X9_area t_now_areas p1 p2 = some (o0, o1)) : CM l yX9_area wsX9_area rmX9_area (kS te) dC dI cI cZ [.ref h_t, .int p1, .int p2] [(h_t, .inr (7, fX9 h_t_now h_t_beforeRead h_t_firstImage h_t_secondImage h_t_valley h_t_ages h_t_fronts h_t_outburst h_t_text t_firstKept t_secondKept)), (h_t_now, .inr (1, fX1 h_t_now_surfaces h_t_now_cliffs h_t_now_boulders h_t_now_scratches h_t_now_numbers h_t_now_facts h_t_now_signs h_t_now_areas h_t_now_heights t_now_ridges)), (h_t_now_areas, .inl (cI, 20, .inl t_now_areas))] [(h_t, .inr (7, fX9 h_t_now h_t_beforeRead h_t_firstImage h_t_secondImage h_t_valley h_t_ages h_t_fronts h_t_outburst h_t_text t_firstKept t_secondKept)), (h_t_now, .inr (1, fX1 h_t_now_surfaces h_t_now_cliffs h_t_now_boulders h_t_now_scratches h_t_now_numbers h_t_now_facts h_t_now_signs h_t_now_areas h_t_now_heights t_now_ridges)), (h_t_now_areas, .inl (cI, 20, .inl o1))] (some (.int o0)) := by
  refine CM_of (cc := cX9_area) (maxL := 3) (ret := (some .int)) (by decide +kernel) rfl (Nat.le_of_ble_eq_true rfl) ?_
  intro p e s m args below meth c A Q hx hb hr hml hown hts hlocks hA hK hP hD hS hE hQ hAe ls hl
  have hown : s.vm.findClass RX9 = some m.cls := hown
  have hl : lv_has ls 3 [(0, .ref h_t), (1, .int p1), (2, .int p2)] := hl
  unfold f_X9_area at hf
  refine lv_iload_n hx hb dX9_area_0 rfl (lv_at hl 1 rfl) ?_
  obtain ⟨r1, hg2, hf⟩ := bd1_some hf
  refine CM_callS (As := [.int p1]) (rest := []) (wc := []) (w1 := []) (wr := [(h_t, .inr (7, fX9 h_t_now h_t_beforeRead h_t_firstImage h_t_secondImage h_t_valley h_t_ages h_t_fronts h_t_outburst h_t_text t_firstKept t_secondKept)), (h_t_now, .inr (1, fX1 h_t_now_surfaces h_t_now_cliffs h_t_now_boulders h_t_now_scratches h_t_now_numbers h_t_now_facts h_t_now_signs h_t_now_areas h_t_now_heights t_now_ridges)), (h_t_now_areas, .inl (cI, 20, .inl t_now_areas))]) (wo := [(h_t, .inr (7, fX9 h_t_now h_t_beforeRead h_t_firstImage h_t_secondImage h_t_valley h_t_ages h_t_fronts h_t_outburst h_t_text t_firstKept t_secondKept)), (h_t_now, .inr (1, fX1 h_t_now_surfaces h_t_now_cliffs h_t_now_boulders h_t_now_scratches h_t_now_numbers h_t_now_facts h_t_now_signs h_t_now_areas h_t_now_heights t_now_ridges)), (h_t_now_areas, .inl (cI, 20, .inl t_now_areas))]) (v := (some (.int r1))) ⟨hx, hb, hml, hown, hts⟩ (c_X9_isLevel l dC dI cI cZ te p1 r1 hg2) (va_cwS 1 hts gX9_area_X9_isLevel rfl rfl rfl (by decide +kernel) ⟨Nat.le_of_ble_eq_true rfl, Nat.le_of_ble_eq_true rfl⟩) (kS_env te) hK hP hD hS hA hE [] [0, 1, 2] [0, 1, 2] rfl rfl (by decide) (by decide) (by decide) (by decide) rfl rfl hl.1 rfl (Nat.le_of_ble_eq_true rfl) dX9_area_1 ⟨Nat.zero_le _, Nat.zero_le _⟩ (fun H locs hP hD hS => ?_)
  show W p l e rmX9_area s m args below meth c H locs 0 0 Q (F0 m 4 ls [.int r1])
  refine lv_if_eq (tgt := 33) hx hb dX9_area_4 (by decide) (fun c3 => ?_) (fun c3 => ?_)
  · replace hf := ifp c3 hf
    refine lv_bipush (v := (-2 : Int32)) hx hb dX9_area_33 (by decide) ?_
    obtain ⟨rfl, rfl⟩ := inj2 hf
    subst hQ
    exact CM_iret hx hb hr rfl hlocks hAe hP hD hS dX9_area_35
  · replace hf := ifn c3 hf
    refine lv_iload_n hx hb dX9_area_7 rfl (lv_at hl 2 rfl) ?_
    refine lv_iconst (v := (0 : Int32)) hx hb dX9_area_8 (by decide) ?_
    refine lv_sipush (v := (999 : Int32)) hx hb dX9_area_9 (by decide) ?_
    obtain ⟨r4, hg5, hf⟩ := bd1_some hf
    refine CM_callS (As := [.int p2, .int (0 : Int32), .int (999 : Int32)]) (rest := []) (wc := []) (w1 := []) (wr := [(h_t, .inr (7, fX9 h_t_now h_t_beforeRead h_t_firstImage h_t_secondImage h_t_valley h_t_ages h_t_fronts h_t_outburst h_t_text t_firstKept t_secondKept)), (h_t_now, .inr (1, fX1 h_t_now_surfaces h_t_now_cliffs h_t_now_boulders h_t_now_scratches h_t_now_numbers h_t_now_facts h_t_now_signs h_t_now_areas h_t_now_heights t_now_ridges)), (h_t_now_areas, .inl (cI, 20, .inl t_now_areas))]) (wo := [(h_t, .inr (7, fX9 h_t_now h_t_beforeRead h_t_firstImage h_t_secondImage h_t_valley h_t_ages h_t_fronts h_t_outburst h_t_text t_firstKept t_secondKept)), (h_t_now, .inr (1, fX1 h_t_now_surfaces h_t_now_cliffs h_t_now_boulders h_t_now_scratches h_t_now_numbers h_t_now_facts h_t_now_signs h_t_now_areas h_t_now_heights t_now_ridges)), (h_t_now_areas, .inl (cI, 20, .inl t_now_areas))]) (v := (some (.int r4))) ⟨hx, hb, hml, hown, hts⟩ (c_X9_within l dC dI cI cZ te p2 (0 : Int32) (999 : Int32) r4 hg5) (va_cwS 3 hts gX9_area_X9_within rfl rfl rfl (by decide +kernel) ⟨Nat.le_of_ble_eq_true rfl, Nat.le_of_ble_eq_true rfl⟩) (kS_env te) hK hP hD hS hA hE [] [0, 1, 2] [0, 1, 2] rfl rfl (by decide) (by decide) (by decide) (by decide) rfl rfl hl.1 rfl (Nat.le_of_ble_eq_true rfl) dX9_area_12 ⟨Nat.zero_le _, Nat.zero_le _⟩ (fun H locs hP hD hS => ?_)
    show W p l e rmX9_area s m args below meth c H locs 0 0 Q (F0 m 15 ls [.int r4])
    refine lv_if_eq (tgt := 33) hx hb dX9_area_15 (by decide) (fun c6 => ?_) (fun c6 => ?_)
    · replace hf := ifp c6 hf
      refine lv_bipush (v := (-2 : Int32)) hx hb dX9_area_33 (by decide) ?_
      obtain ⟨rfl, rfl⟩ := inj2 hf
      subst hQ
      exact CM_iret hx hb hr rfl hlocks hAe hP hD hS dX9_area_35
    · replace hf := ifn c6 hf
      refine lv_aload_n hx hb dX9_area_18 rfl (lv_at hl 0 rfl) ?_
      refine va_get (D := (dC, dI)) (ci := 7) (v := .ref h_t_now) (C := RX9) (T := TX9) (N := 11) hx hb hts kX9_area_0 hown hK hP 0 rfl rfl 0 (by decide) (hts _ kX9_area_1) (fun _ h9 => h9) rfl dX9_area_19 ?_
      refine va_get (D := (dC, dI)) (ci := 1) (v := .ref h_t_now_areas) (C := RX1) (T := TX1) (N := 10) hx hb hts kX9_area_2 hown hK hP 1 rfl rfl 7 (by decide) (hts _ kX9_area_3) (fun _ h9 => h9) rfl dX9_area_22 ?_
      refine lv_iload_n hx hb dX9_area_25 rfl (lv_at hl 1 rfl) ?_
      refine lv_iload_n hx hb dX9_area_26 rfl (lv_at hl 2 rfl) ?_
      obtain ⟨r7, y8, hg9, hf⟩ := bd2_some hf
      refine CM_callS (As := [.ref h_t_now_areas, .int p1, .int p2]) (rest := []) (wc := [(h_t_now_areas, .inl (cI, 20, .inl t_now_areas))]) (w1 := [(h_t_now_areas, .inl (cI, 20, .inl y8))]) (wr := [(h_t, .inr (7, fX9 h_t_now h_t_beforeRead h_t_firstImage h_t_secondImage h_t_valley h_t_ages h_t_fronts h_t_outburst h_t_text t_firstKept t_secondKept)), (h_t_now, .inr (1, fX1 h_t_now_surfaces h_t_now_cliffs h_t_now_boulders h_t_now_scratches h_t_now_numbers h_t_now_facts h_t_now_signs h_t_now_areas h_t_now_heights t_now_ridges))]) (wo := [(h_t, .inr (7, fX9 h_t_now h_t_beforeRead h_t_firstImage h_t_secondImage h_t_valley h_t_ages h_t_fronts h_t_outburst h_t_text t_firstKept t_secondKept)), (h_t_now, .inr (1, fX1 h_t_now_surfaces h_t_now_cliffs h_t_now_boulders h_t_now_scratches h_t_now_numbers h_t_now_facts h_t_now_signs h_t_now_areas h_t_now_heights t_now_ridges)), (h_t_now_areas, .inl (cI, 20, .inl y8))]) (v := (some (.int r7))) ⟨hx, hb, hml, hown, hts⟩ (c_X9_exchange l dC dI cI cZ te h_t_now_areas (20) t_now_areas p1 p2 r7 y8 hg9) (va_cwS 3 hts gX9_area_X9_exchange rfl rfl rfl (by decide +kernel) ⟨Nat.le_of_ble_eq_true rfl, Nat.le_of_ble_eq_true rfl⟩) (kS_env te) hK hP hD hS hA hE [2] [0, 1] [0, 1, 2] rfl rfl (by decide) (by decide) (by decide) (by decide) rfl rfl hl.1 rfl (Nat.le_of_ble_eq_true rfl) dX9_area_27 ⟨Nat.zero_le _, Nat.zero_le _⟩ (fun H locs hP hD hS => ?_)
      show W p l e rmX9_area s m args below meth c H locs 0 0 Q (F0 m 30 ls [.int r7])
      refine lv_goto (tgt := 35) hx hb dX9_area_30 (by decide) ?_
      obtain ⟨rfl, rfl⟩ := inj2 hf
      subst hQ
      exact CM_iret hx hb hr rfl hlocks hAe hP hD hS dX9_area_35
def rmX9_isHeightAndSill : Room := { frames := 1, cells := 0, slots := 0, locals := 22 }
set_option maxHeartbeats 4000000 in
set_option maxRecDepth 100000 in
theorem c_X9_isHeightAndSill (l : Launch) (dC : Nat → ClassId) (dI : Nat → Nat → Nat) (cI cZ : ClassId) (te : Nat → Nat) (p1 : Int32) (p2 : Int32) (o0 : Int32) (hf : f_X9_isHeightAndSill p1 p2 = some o0) : CM l yX9_isHeightAndSill wsX9_isHeightAndSill rmX9_isHeightAndSill (kS te) dC dI cI cZ [.int p1, .int p2] [] [] (some (.int o0)) := by
  refine CM_of (cc := cX9_isHeightAndSill) (maxL := 2) (ret := (some .boolean)) (by decide +kernel) rfl (Nat.le_of_ble_eq_true rfl) ?_
  intro p e s m args below meth c A Q hx hb hr hml hown hts hlocks hA hK hP hD hS hE hQ hAe ls hl
  have hown : s.vm.findClass RX9 = some m.cls := hown
  have hl : lv_has ls 2 [(0, .int p1), (1, .int p2)] := hl
  unfold f_X9_isHeightAndSill at hf
  refine lv_iload_n hx hb dX9_isHeightAndSill_0 rfl (lv_at hl 0 rfl) ?_
  refine lv_iconst (v := (0 : Int32)) hx hb dX9_isHeightAndSill_1 (by decide) ?_
  refine lv_bipush (v := (20 : Int32)) hx hb dX9_isHeightAndSill_2 (by decide) ?_
  obtain ⟨r1, hg2, hf⟩ := bd1_some hf
  refine CM_callS (As := [.int p1, .int (0 : Int32), .int (20 : Int32)]) (rest := []) (wc := []) (w1 := []) (wr := []) (wo := []) (v := (some (.int r1))) ⟨hx, hb, hml, hown, hts⟩ (c_X9_within l dC dI cI cZ te p1 (0 : Int32) (20 : Int32) r1 hg2) (va_cwS 3 hts gX9_isHeightAndSill_X9_within rfl rfl rfl (by decide +kernel) ⟨Nat.le_of_ble_eq_true rfl, Nat.le_of_ble_eq_true rfl⟩) (kS_env te) hK hP hD hS hA hE [] [] [] rfl rfl (by decide) (by decide) (by decide) (by decide) rfl rfl hl.1 rfl (Nat.le_of_ble_eq_true rfl) dX9_isHeightAndSill_4 ⟨Nat.zero_le _, Nat.zero_le _⟩ (fun H locs hP hD hS => ?_)
  show W p l e rmX9_isHeightAndSill s m args below meth c H locs 0 0 Q (F0 m 7 ls [.int r1])
  refine lv_if_eq (tgt := 25) hx hb dX9_isHeightAndSill_7 (by decide) (fun c3 => ?_) (fun c3 => ?_)
  · replace hf := ifp c3 hf
    refine lv_iconst (v := (0 : Int32)) hx hb dX9_isHeightAndSill_25 (by decide) ?_
    obtain rfl := inj1 hf
    subst hQ
    exact CM_iret hx hb hr rfl hlocks hAe hP hD hS dX9_isHeightAndSill_26
  · replace hf := ifn c3 hf
    refine lv_iload_n hx hb dX9_isHeightAndSill_10 rfl (lv_at hl 1 rfl) ?_
    refine lv_iconst (v := (0 : Int32)) hx hb dX9_isHeightAndSill_11 (by decide) ?_
    refine lv_iload_n hx hb dX9_isHeightAndSill_12 rfl (lv_at hl 0 rfl) ?_
    refine lv_iconst (v := (1 : Int32)) hx hb dX9_isHeightAndSill_13 (by decide) ?_
    refine lv_isub hx hb dX9_isHeightAndSill_14 ?_
    obtain ⟨r4, hg5, hf⟩ := bd1_some hf
    refine CM_callS (As := [.int p2, .int (0 : Int32), .int (p1 - (1 : Int32))]) (rest := []) (wc := []) (w1 := []) (wr := []) (wo := []) (v := (some (.int r4))) ⟨hx, hb, hml, hown, hts⟩ (c_X9_within l dC dI cI cZ te p2 (0 : Int32) (p1 - (1 : Int32)) r4 hg5) (va_cwS 3 hts gX9_isHeightAndSill_X9_within rfl rfl rfl (by decide +kernel) ⟨Nat.le_of_ble_eq_true rfl, Nat.le_of_ble_eq_true rfl⟩) (kS_env te) hK hP hD hS hA hE [] [] [] rfl rfl (by decide) (by decide) (by decide) (by decide) rfl rfl hl.1 rfl (Nat.le_of_ble_eq_true rfl) dX9_isHeightAndSill_15 ⟨Nat.zero_le _, Nat.zero_le _⟩ (fun H locs hP hD hS => ?_)
    show W p l e rmX9_isHeightAndSill s m args below meth c H locs 0 0 Q (F0 m 18 ls [.int r4])
    refine lv_if_eq (tgt := 25) hx hb dX9_isHeightAndSill_18 (by decide) (fun c6 => ?_) (fun c6 => ?_)
    · replace hf := ifp c6 hf
      refine lv_iconst (v := (0 : Int32)) hx hb dX9_isHeightAndSill_25 (by decide) ?_
      obtain rfl := inj1 hf
      subst hQ
      exact CM_iret hx hb hr rfl hlocks hAe hP hD hS dX9_isHeightAndSill_26
    · replace hf := ifn c6 hf
      refine lv_iconst (v := (1 : Int32)) hx hb dX9_isHeightAndSill_21 (by decide) ?_
      refine lv_goto (tgt := 26) hx hb dX9_isHeightAndSill_22 (by decide) ?_
      obtain rfl := inj1 hf
      subst hQ
      exact CM_iret hx hb hr rfl hlocks hAe hP hD hS dX9_isHeightAndSill_26
def rmX9_lake : Room := { frames := 3, cells := 0, slots := 0, locals := 73 }
set_option maxRecDepth 20000 in
theorem kX9_lake_0 : ∀ w ∈ u_ws RX9 TX9 11, w ∈ wsX9_lake := by decide +kernel
set_option maxRecDepth 20000 in
theorem kX9_lake_1 : Cond.fieldLink RX9 49 "StoneRiver" "outburst" "LStoneRiver$Outburst;" ∈ wsX9_lake := by decide +kernel
set_option maxRecDepth 20000 in
theorem kX9_lake_2 : Cond.fieldLink RX9 10 "StoneRiver" "now" "LStoneRiver$Found;" ∈ wsX9_lake := by decide +kernel
set_option maxRecDepth 20000 in
theorem kX9_lake_3 : ∀ w ∈ u_ws RX1 TX1 10, w ∈ wsX9_lake := by decide +kernel
set_option maxRecDepth 20000 in
theorem kX9_lake_4 : Cond.fieldLink RX9 211 "StoneRiver$Found" "areas" "[I" ∈ wsX9_lake := by decide +kernel
set_option maxHeartbeats 4000000 in
set_option maxRecDepth 100000 in
theorem c_X9_lake (l : Launch) (dC : Nat → ClassId) (dI : Nat → Nat → Nat) (cI cZ : ClassId) (te : Nat → Nat) (h_t : Nat) (h_t_now : Nat) (h_t_beforeRead : Nat) (h_t_firstImage : Nat) (h_t_secondImage : Nat) (h_t_valley : Nat) (h_t_ages : Nat) (h_t_fronts : Nat) (h_t_outburst : Nat) (h_t_text : Nat) (h_t_now_surfaces : Nat) (h_t_now_cliffs : Nat) (h_t_now_boulders : Nat) (h_t_now_scratches : Nat) (h_t_now_numbers : Nat) (h_t_now_facts : Nat) (h_t_now_signs : Nat) (h_t_now_areas : Nat) (h_t_now_heights : Nat) (h_t_outburst_left : Nat) (t_firstKept : Int32) (t_secondKept : Int32) (t_now_ridges : Int32) (t_now_areas : Nat → Int32) (t_outburst_hours : Int32) (t_outburst_greatest : Int32) (t_outburst_left : Nat → Int32) (t_now_numbers : Nat → Int32) (p1 : Int32) (p2 : Int32) (p3 : Int32) (o0 : Int32) (o1 : Int32) (o2 : Int32) (o3 : Nat → Int32) (hf : f_X9_lake t_now_areas t_outburst_hours t_outburst_greatest t_outburst_left t_now_numbers p1 p2 p3 = some (o0, o1, o2, o3)) : CM l yX9_lake wsX9_lake rmX9_lake (kS te) dC dI cI cZ [.ref h_t, .int p1, .int p2, .int p3] [(h_t, .inr (7, fX9 h_t_now h_t_beforeRead h_t_firstImage h_t_secondImage h_t_valley h_t_ages h_t_fronts h_t_outburst h_t_text t_firstKept t_secondKept)), (h_t_now, .inr (1, fX1 h_t_now_surfaces h_t_now_cliffs h_t_now_boulders h_t_now_scratches h_t_now_numbers h_t_now_facts h_t_now_signs h_t_now_areas h_t_now_heights t_now_ridges)), (h_t_now_areas, .inl (cI, 20, .inl t_now_areas)), (h_t_outburst, .inr (3, fX3 h_t_outburst_left t_outburst_hours t_outburst_greatest)), (h_t_outburst_left, .inl (cI, 20, .inl t_outburst_left)), (h_t_now_numbers, .inl (cI, 6, .inl t_now_numbers))] [(h_t, .inr (7, fX9 h_t_now h_t_beforeRead h_t_firstImage h_t_secondImage h_t_valley h_t_ages h_t_fronts h_t_outburst h_t_text t_firstKept t_secondKept)), (h_t_now, .inr (1, fX1 h_t_now_surfaces h_t_now_cliffs h_t_now_boulders h_t_now_scratches h_t_now_numbers h_t_now_facts h_t_now_signs h_t_now_areas h_t_now_heights t_now_ridges)), (h_t_now_areas, .inl (cI, 20, .inl t_now_areas)), (h_t_outburst, .inr (3, fX3 h_t_outburst_left o1 o2)), (h_t_outburst_left, .inl (cI, 20, .inl o3)), (h_t_now_numbers, .inl (cI, 6, .inl t_now_numbers))] (some (.int o0)) := by
  refine CM_of (cc := cX9_lake) (maxL := 4) (ret := (some .int)) (by decide +kernel) rfl (Nat.le_of_ble_eq_true rfl) ?_
  intro p e s m args below meth c A Q hx hb hr hml hown hts hlocks hA hK hP hD hS hE hQ hAe ls hl
  have hown : s.vm.findClass RX9 = some m.cls := hown
  have hl : lv_has ls 4 [(0, .ref h_t), (1, .int p1), (2, .int p2), (3, .int p3)] := hl
  unfold f_X9_lake at hf
  refine lv_iload_n hx hb dX9_lake_0 rfl (lv_at hl 1 rfl) ?_
  refine lv_iload_n hx hb dX9_lake_1 rfl (lv_at hl 2 rfl) ?_
  obtain ⟨r1, hg2, hf⟩ := bd1_some hf
  refine CM_callS (As := [.int p1, .int p2]) (rest := []) (wc := []) (w1 := []) (wr := [(h_t, .inr (7, fX9 h_t_now h_t_beforeRead h_t_firstImage h_t_secondImage h_t_valley h_t_ages h_t_fronts h_t_outburst h_t_text t_firstKept t_secondKept)), (h_t_now, .inr (1, fX1 h_t_now_surfaces h_t_now_cliffs h_t_now_boulders h_t_now_scratches h_t_now_numbers h_t_now_facts h_t_now_signs h_t_now_areas h_t_now_heights t_now_ridges)), (h_t_now_areas, .inl (cI, 20, .inl t_now_areas)), (h_t_outburst, .inr (3, fX3 h_t_outburst_left t_outburst_hours t_outburst_greatest)), (h_t_outburst_left, .inl (cI, 20, .inl t_outburst_left)), (h_t_now_numbers, .inl (cI, 6, .inl t_now_numbers))]) (wo := [(h_t, .inr (7, fX9 h_t_now h_t_beforeRead h_t_firstImage h_t_secondImage h_t_valley h_t_ages h_t_fronts h_t_outburst h_t_text t_firstKept t_secondKept)), (h_t_now, .inr (1, fX1 h_t_now_surfaces h_t_now_cliffs h_t_now_boulders h_t_now_scratches h_t_now_numbers h_t_now_facts h_t_now_signs h_t_now_areas h_t_now_heights t_now_ridges)), (h_t_now_areas, .inl (cI, 20, .inl t_now_areas)), (h_t_outburst, .inr (3, fX3 h_t_outburst_left t_outburst_hours t_outburst_greatest)), (h_t_outburst_left, .inl (cI, 20, .inl t_outburst_left)), (h_t_now_numbers, .inl (cI, 6, .inl t_now_numbers))]) (v := (some (.int r1))) ⟨hx, hb, hml, hown, hts⟩ (c_X9_isHeightAndSill l dC dI cI cZ te p1 p2 r1 hg2) (va_cwS 2 hts gX9_lake_X9_isHeightAndSill rfl rfl rfl (by decide +kernel) ⟨Nat.le_of_ble_eq_true rfl, Nat.le_of_ble_eq_true rfl⟩) (kS_env te) hK hP hD hS hA hE [] [0, 1, 2, 3, 4, 5] [0, 1, 2, 3, 4, 5] rfl rfl (by decide) (by decide) (by decide) (by decide) rfl rfl hl.1 rfl (Nat.le_of_ble_eq_true rfl) dX9_lake_2 ⟨Nat.zero_le _, Nat.zero_le _⟩ (fun H locs hP hD hS => ?_)
  show W p l e rmX9_lake s m args below meth c H locs 0 0 Q (F0 m 5 ls [.int r1])
  refine lv_if_eq (tgt := 17) hx hb dX9_lake_5 (by decide) (fun c3 => ?_) (fun c3 => ?_)
  · replace hf := ifp c3 hf
    refine lv_bipush (v := (-2 : Int32)) hx hb dX9_lake_17 (by decide) ?_
    obtain ⟨rfl, rfl, rfl, rfl⟩ := inj4 hf
    subst hQ
    exact CM_iret hx hb hr rfl hlocks hAe hP hD hS dX9_lake_19
  · replace hf := ifn c3 hf
    refine lv_iload_n hx hb dX9_lake_8 rfl (lv_at hl 3 rfl) ?_
    refine lv_iconst (v := (0 : Int32)) hx hb dX9_lake_9 (by decide) ?_
    refine lv_iconst (v := (2 : Int32)) hx hb dX9_lake_10 (by decide) ?_
    obtain ⟨r4, hg5, hf⟩ := bd1_some hf
    refine CM_callS (As := [.int p3, .int (0 : Int32), .int (2 : Int32)]) (rest := []) (wc := []) (w1 := []) (wr := [(h_t, .inr (7, fX9 h_t_now h_t_beforeRead h_t_firstImage h_t_secondImage h_t_valley h_t_ages h_t_fronts h_t_outburst h_t_text t_firstKept t_secondKept)), (h_t_now, .inr (1, fX1 h_t_now_surfaces h_t_now_cliffs h_t_now_boulders h_t_now_scratches h_t_now_numbers h_t_now_facts h_t_now_signs h_t_now_areas h_t_now_heights t_now_ridges)), (h_t_now_areas, .inl (cI, 20, .inl t_now_areas)), (h_t_outburst, .inr (3, fX3 h_t_outburst_left t_outburst_hours t_outburst_greatest)), (h_t_outburst_left, .inl (cI, 20, .inl t_outburst_left)), (h_t_now_numbers, .inl (cI, 6, .inl t_now_numbers))]) (wo := [(h_t, .inr (7, fX9 h_t_now h_t_beforeRead h_t_firstImage h_t_secondImage h_t_valley h_t_ages h_t_fronts h_t_outburst h_t_text t_firstKept t_secondKept)), (h_t_now, .inr (1, fX1 h_t_now_surfaces h_t_now_cliffs h_t_now_boulders h_t_now_scratches h_t_now_numbers h_t_now_facts h_t_now_signs h_t_now_areas h_t_now_heights t_now_ridges)), (h_t_now_areas, .inl (cI, 20, .inl t_now_areas)), (h_t_outburst, .inr (3, fX3 h_t_outburst_left t_outburst_hours t_outburst_greatest)), (h_t_outburst_left, .inl (cI, 20, .inl t_outburst_left)), (h_t_now_numbers, .inl (cI, 6, .inl t_now_numbers))]) (v := (some (.int r4))) ⟨hx, hb, hml, hown, hts⟩ (c_X9_within l dC dI cI cZ te p3 (0 : Int32) (2 : Int32) r4 hg5) (va_cwS 3 hts gX9_lake_X9_within rfl rfl rfl (by decide +kernel) ⟨Nat.le_of_ble_eq_true rfl, Nat.le_of_ble_eq_true rfl⟩) (kS_env te) hK hP hD hS hA hE [] [0, 1, 2, 3, 4, 5] [0, 1, 2, 3, 4, 5] rfl rfl (by decide) (by decide) (by decide) (by decide) rfl rfl hl.1 rfl (Nat.le_of_ble_eq_true rfl) dX9_lake_11 ⟨Nat.zero_le _, Nat.zero_le _⟩ (fun H locs hP hD hS => ?_)
    show W p l e rmX9_lake s m args below meth c H locs 0 0 Q (F0 m 14 ls [.int r4])
    refine lv_if_ne (tgt := 20) hx hb dX9_lake_14 (by decide) (fun c6 => ?_) (fun c6 => ?_)
    · replace hf := ifn c6 hf
      refine lv_iload_n hx hb dX9_lake_20 rfl (lv_at hl 3 rfl) ?_
      refine lv_if_ne (tgt := 37) hx hb dX9_lake_21 (by decide) (fun c7 => ?_) (fun c7 => ?_)
      · replace hf := ifn c7 hf
        refine lv_aload_n hx hb dX9_lake_37 rfl (lv_at hl 0 rfl) ?_
        refine va_get (D := (dC, dI)) (ci := 7) (v := .ref h_t_outburst) (C := RX9) (T := TX9) (N := 11) hx hb hts kX9_lake_0 hown hK hP 0 rfl rfl 7 (by decide) (hts _ kX9_lake_1) (fun _ h9 => h9) rfl dX9_lake_38 ?_
        refine lv_aload_n hx hb dX9_lake_41 rfl (lv_at hl 0 rfl) ?_
        refine va_get (D := (dC, dI)) (ci := 7) (v := .ref h_t_now) (C := RX9) (T := TX9) (N := 11) hx hb hts kX9_lake_0 hown hK hP 0 rfl rfl 0 (by decide) (hts _ kX9_lake_2) (fun _ h9 => h9) rfl dX9_lake_42 ?_
        refine lv_iload_n hx hb dX9_lake_45 rfl (lv_at hl 1 rfl) ?_
        refine lv_iload_n hx hb dX9_lake_46 rfl (lv_at hl 2 rfl) ?_
        obtain ⟨x8, x9, y10, hg11, hf⟩ := bd3_some hf
        refine CM_callV (C := RX3) (As := [.ref h_t_now, .int p1, .int p2]) (rest := []) (wc := [(h_t_now, .inr (1, fX1 h_t_now_surfaces h_t_now_cliffs h_t_now_boulders h_t_now_scratches h_t_now_numbers h_t_now_facts h_t_now_signs h_t_now_areas h_t_now_heights t_now_ridges)), (h_t_now_areas, .inl (cI, 20, .inl t_now_areas)), (h_t_outburst, .inr (3, fX3 h_t_outburst_left t_outburst_hours t_outburst_greatest)), (h_t_outburst_left, .inl (cI, 20, .inl t_outburst_left)), (h_t_now_numbers, .inl (cI, 6, .inl t_now_numbers))]) (w1 := [(h_t_now, .inr (1, fX1 h_t_now_surfaces h_t_now_cliffs h_t_now_boulders h_t_now_scratches h_t_now_numbers h_t_now_facts h_t_now_signs h_t_now_areas h_t_now_heights t_now_ridges)), (h_t_now_areas, .inl (cI, 20, .inl t_now_areas)), (h_t_outburst, .inr (3, fX3 h_t_outburst_left x8 x9)), (h_t_outburst_left, .inl (cI, 20, .inl y10)), (h_t_now_numbers, .inl (cI, 6, .inl t_now_numbers))]) (wr := [(h_t, .inr (7, fX9 h_t_now h_t_beforeRead h_t_firstImage h_t_secondImage h_t_valley h_t_ages h_t_fronts h_t_outburst h_t_text t_firstKept t_secondKept))]) (wo := [(h_t, .inr (7, fX9 h_t_now h_t_beforeRead h_t_firstImage h_t_secondImage h_t_valley h_t_ages h_t_fronts h_t_outburst h_t_text t_firstKept t_secondKept)), (h_t_now, .inr (1, fX1 h_t_now_surfaces h_t_now_cliffs h_t_now_boulders h_t_now_scratches h_t_now_numbers h_t_now_facts h_t_now_signs h_t_now_areas h_t_now_heights t_now_ridges)), (h_t_now_areas, .inl (cI, 20, .inl t_now_areas)), (h_t_outburst, .inr (3, fX3 h_t_outburst_left x8 x9)), (h_t_outburst_left, .inl (cI, 20, .inl y10)), (h_t_now_numbers, .inl (cI, 6, .inl t_now_numbers))]) (v := (none)) ⟨hx, hb, hml, hown, hts⟩ (c_X3_run l dC dI cI cZ te h_t_outburst h_t_now h_t_now_surfaces h_t_now_cliffs h_t_now_boulders h_t_now_scratches h_t_now_numbers h_t_now_facts h_t_now_signs h_t_now_areas h_t_now_heights h_t_outburst_left t_now_ridges t_now_areas t_outburst_hours t_outburst_greatest t_outburst_left t_now_numbers p1 p2 x8 x9 y10 hg11) (cwV 3 hts gX9_lake_X3_run rfl rfl rfl (by decide +kernel) ⟨Nat.le_of_ble_eq_true rfl, Nat.le_of_ble_eq_true rfl⟩) (kS_env te) hK hP hD hS hA hE [1, 2, 3, 4, 5] [0] [0, 1, 2, 3, 4, 5] rfl rfl (by decide) (by decide) (by decide) (by decide) rfl 3 3 rfl rfl rfl rfl hl.1 rfl (Nat.le_of_ble_eq_true rfl) dX9_lake_47 ⟨Nat.zero_le _, Nat.zero_le _⟩ (fun H locs hP hD hS => ?_)
        show W p l e rmX9_lake s m args below meth c H locs 0 0 Q (F0 m 50 ls [])
        refine lv_iload_n hx hb dX9_lake_50 rfl (lv_at hl 3 rfl) ?_
        refine lv_iconst (v := (1 : Int32)) hx hb dX9_lake_51 (by decide) ?_
        refine lv_icmp_ne (tgt := 65) hx hb dX9_lake_52 (by decide) (fun c12 => ?_) (fun c12 => ?_)
        · replace hf := ifn c12 hf
          refine lv_aload_n hx hb dX9_lake_65 rfl (lv_at hl 0 rfl) ?_
          refine va_get (D := (dC, dI)) (ci := 7) (v := .ref h_t_outburst) (C := RX9) (T := TX9) (N := 11) hx hb hts kX9_lake_0 hown hK hP 0 rfl rfl 7 (by decide) (hts _ kX9_lake_1) (fun _ h9 => h9) rfl dX9_lake_66 ?_
          obtain ⟨r13, hg14, hf⟩ := bd1_some hf
          refine CM_callV (C := RX3) (As := []) (rest := []) (wc := [(h_t_outburst, .inr (3, fX3 h_t_outburst_left x8 x9))]) (w1 := [(h_t_outburst, .inr (3, fX3 h_t_outburst_left x8 x9))]) (wr := [(h_t, .inr (7, fX9 h_t_now h_t_beforeRead h_t_firstImage h_t_secondImage h_t_valley h_t_ages h_t_fronts h_t_outburst h_t_text t_firstKept t_secondKept)), (h_t_now, .inr (1, fX1 h_t_now_surfaces h_t_now_cliffs h_t_now_boulders h_t_now_scratches h_t_now_numbers h_t_now_facts h_t_now_signs h_t_now_areas h_t_now_heights t_now_ridges)), (h_t_now_areas, .inl (cI, 20, .inl t_now_areas)), (h_t_outburst_left, .inl (cI, 20, .inl y10)), (h_t_now_numbers, .inl (cI, 6, .inl t_now_numbers))]) (wo := [(h_t, .inr (7, fX9 h_t_now h_t_beforeRead h_t_firstImage h_t_secondImage h_t_valley h_t_ages h_t_fronts h_t_outburst h_t_text t_firstKept t_secondKept)), (h_t_now, .inr (1, fX1 h_t_now_surfaces h_t_now_cliffs h_t_now_boulders h_t_now_scratches h_t_now_numbers h_t_now_facts h_t_now_signs h_t_now_areas h_t_now_heights t_now_ridges)), (h_t_now_areas, .inl (cI, 20, .inl t_now_areas)), (h_t_outburst, .inr (3, fX3 h_t_outburst_left x8 x9)), (h_t_outburst_left, .inl (cI, 20, .inl y10)), (h_t_now_numbers, .inl (cI, 6, .inl t_now_numbers))]) (v := (some (.int r13))) ⟨hx, hb, hml, hown, hts⟩ (c_X3_greatest l dC dI cI cZ te h_t_outburst h_t_outburst_left x8 x9 r13 hg14) (cwV 0 hts gX9_lake_X3_greatest rfl rfl rfl (by decide +kernel) ⟨Nat.le_of_ble_eq_true rfl, Nat.le_of_ble_eq_true rfl⟩) (kS_env te) hK hP hD hS hA hE [3] [0, 1, 2, 4, 5] [0, 1, 2, 5, 3, 4] rfl rfl (by decide) (by decide) (by decide) (by decide) rfl 3 3 rfl rfl rfl rfl hl.1 rfl (Nat.le_of_ble_eq_true rfl) dX9_lake_69 ⟨Nat.zero_le _, Nat.zero_le _⟩ (fun H locs hP hD hS => ?_)
          show W p l e rmX9_lake s m args below meth c H locs 0 0 Q (F0 m 72 ls [.int r13])
          obtain ⟨rfl, rfl, rfl, rfl⟩ := inj4 hf
          subst hQ
          exact CM_iret hx hb hr rfl hlocks hAe hP hD hS dX9_lake_72
        · replace hf := ifp c12 hf
          refine lv_aload_n hx hb dX9_lake_55 rfl (lv_at hl 0 rfl) ?_
          refine va_get (D := (dC, dI)) (ci := 7) (v := .ref h_t_outburst) (C := RX9) (T := TX9) (N := 11) hx hb hts kX9_lake_0 hown hK hP 0 rfl rfl 7 (by decide) (hts _ kX9_lake_1) (fun _ h9 => h9) rfl dX9_lake_56 ?_
          obtain ⟨r15, hg16, hf⟩ := bd1_some hf
          refine CM_callV (C := RX3) (As := []) (rest := []) (wc := [(h_t_outburst, .inr (3, fX3 h_t_outburst_left x8 x9))]) (w1 := [(h_t_outburst, .inr (3, fX3 h_t_outburst_left x8 x9))]) (wr := [(h_t, .inr (7, fX9 h_t_now h_t_beforeRead h_t_firstImage h_t_secondImage h_t_valley h_t_ages h_t_fronts h_t_outburst h_t_text t_firstKept t_secondKept)), (h_t_now, .inr (1, fX1 h_t_now_surfaces h_t_now_cliffs h_t_now_boulders h_t_now_scratches h_t_now_numbers h_t_now_facts h_t_now_signs h_t_now_areas h_t_now_heights t_now_ridges)), (h_t_now_areas, .inl (cI, 20, .inl t_now_areas)), (h_t_outburst_left, .inl (cI, 20, .inl y10)), (h_t_now_numbers, .inl (cI, 6, .inl t_now_numbers))]) (wo := [(h_t, .inr (7, fX9 h_t_now h_t_beforeRead h_t_firstImage h_t_secondImage h_t_valley h_t_ages h_t_fronts h_t_outburst h_t_text t_firstKept t_secondKept)), (h_t_now, .inr (1, fX1 h_t_now_surfaces h_t_now_cliffs h_t_now_boulders h_t_now_scratches h_t_now_numbers h_t_now_facts h_t_now_signs h_t_now_areas h_t_now_heights t_now_ridges)), (h_t_now_areas, .inl (cI, 20, .inl t_now_areas)), (h_t_outburst, .inr (3, fX3 h_t_outburst_left x8 x9)), (h_t_outburst_left, .inl (cI, 20, .inl y10)), (h_t_now_numbers, .inl (cI, 6, .inl t_now_numbers))]) (v := (some (.int r15))) ⟨hx, hb, hml, hown, hts⟩ (c_X3_hours l dC dI cI cZ te h_t_outburst h_t_outburst_left x8 x9 r15 hg16) (cwV 0 hts gX9_lake_X3_hours rfl rfl rfl (by decide +kernel) ⟨Nat.le_of_ble_eq_true rfl, Nat.le_of_ble_eq_true rfl⟩) (kS_env te) hK hP hD hS hA hE [3] [0, 1, 2, 4, 5] [0, 1, 2, 5, 3, 4] rfl rfl (by decide) (by decide) (by decide) (by decide) rfl 3 3 rfl rfl rfl rfl hl.1 rfl (Nat.le_of_ble_eq_true rfl) dX9_lake_59 ⟨Nat.zero_le _, Nat.zero_le _⟩ (fun H locs hP hD hS => ?_)
          show W p l e rmX9_lake s m args below meth c H locs 0 0 Q (F0 m 62 ls [.int r15])
          refine lv_goto (tgt := 72) hx hb dX9_lake_62 (by decide) ?_
          obtain ⟨rfl, rfl, rfl, rfl⟩ := inj4 hf
          subst hQ
          exact CM_iret hx hb hr rfl hlocks hAe hP hD hS dX9_lake_72
      · replace hf := ifp c7 hf
        refine lv_aload_n hx hb dX9_lake_24 rfl (lv_at hl 0 rfl) ?_
        refine va_get (D := (dC, dI)) (ci := 7) (v := .ref h_t_now) (C := RX9) (T := TX9) (N := 11) hx hb hts kX9_lake_0 hown hK hP 0 rfl rfl 0 (by decide) (hts _ kX9_lake_2) (fun _ h9 => h9) rfl dX9_lake_25 ?_
        refine va_get (D := (dC, dI)) (ci := 1) (v := .ref h_t_now_areas) (C := RX1) (T := TX1) (N := 10) hx hb hts kX9_lake_3 hown hK hP 1 rfl rfl 7 (by decide) (hts _ kX9_lake_4) (fun _ h9 => h9) rfl dX9_lake_28 ?_
        refine lv_iload_n hx hb dX9_lake_31 rfl (lv_at hl 1 rfl) ?_
        refine lv_iload_n hx hb dX9_lake_32 rfl (lv_at hl 2 rfl) ?_
        obtain ⟨r17, hg18, hf⟩ := bd1_some hf
        refine CM_callS (As := [.ref h_t_now_areas, .int p1, .int p2]) (rest := []) (wc := [(h_t_now_areas, .inl (cI, 20, .inl t_now_areas))]) (w1 := [(h_t_now_areas, .inl (cI, 20, .inl t_now_areas))]) (wr := [(h_t, .inr (7, fX9 h_t_now h_t_beforeRead h_t_firstImage h_t_secondImage h_t_valley h_t_ages h_t_fronts h_t_outburst h_t_text t_firstKept t_secondKept)), (h_t_now, .inr (1, fX1 h_t_now_surfaces h_t_now_cliffs h_t_now_boulders h_t_now_scratches h_t_now_numbers h_t_now_facts h_t_now_signs h_t_now_areas h_t_now_heights t_now_ridges)), (h_t_outburst, .inr (3, fX3 h_t_outburst_left t_outburst_hours t_outburst_greatest)), (h_t_outburst_left, .inl (cI, 20, .inl t_outburst_left)), (h_t_now_numbers, .inl (cI, 6, .inl t_now_numbers))]) (wo := [(h_t, .inr (7, fX9 h_t_now h_t_beforeRead h_t_firstImage h_t_secondImage h_t_valley h_t_ages h_t_fronts h_t_outburst h_t_text t_firstKept t_secondKept)), (h_t_now, .inr (1, fX1 h_t_now_surfaces h_t_now_cliffs h_t_now_boulders h_t_now_scratches h_t_now_numbers h_t_now_facts h_t_now_signs h_t_now_areas h_t_now_heights t_now_ridges)), (h_t_now_areas, .inl (cI, 20, .inl t_now_areas)), (h_t_outburst, .inr (3, fX3 h_t_outburst_left t_outburst_hours t_outburst_greatest)), (h_t_outburst_left, .inl (cI, 20, .inl t_outburst_left)), (h_t_now_numbers, .inl (cI, 6, .inl t_now_numbers))]) (v := (some (.int r17))) ⟨hx, hb, hml, hown, hts⟩ (c_X3_volume l dC dI cI cZ te h_t_now_areas (20) t_now_areas p1 p2 r17 hg18) (va_cwS 3 hts gX9_lake_X3_volume rfl rfl rfl (by decide +kernel) ⟨Nat.le_of_ble_eq_true rfl, Nat.le_of_ble_eq_true rfl⟩) (kS_env te) hK hP hD hS hA hE [2] [0, 1, 3, 4, 5] [0, 1, 5, 2, 3, 4] rfl rfl (by decide) (by decide) (by decide) (by decide) rfl rfl hl.1 rfl (Nat.le_of_ble_eq_true rfl) dX9_lake_33 ⟨Nat.zero_le _, Nat.zero_le _⟩ (fun H locs hP hD hS => ?_)
        show W p l e rmX9_lake s m args below meth c H locs 0 0 Q (F0 m 36 ls [.int r17])
        obtain ⟨rfl, rfl, rfl, rfl⟩ := inj4 hf
        subst hQ
        exact CM_iret hx hb hr rfl hlocks hAe hP hD hS dX9_lake_36
    · replace hf := ifp c6 hf
      refine lv_bipush (v := (-2 : Int32)) hx hb dX9_lake_17 (by decide) ?_
      obtain ⟨rfl, rfl, rfl, rfl⟩ := inj4 hf
      subst hQ
      exact CM_iret hx hb hr rfl hlocks hAe hP hD hS dX9_lake_19
def rmX9_shore : Room := { frames := 2, cells := 0, slots := 0, locals := 45 }
set_option maxRecDepth 20000 in
theorem kX9_shore_0 : ∀ w ∈ u_ws RX9 TX9 11, w ∈ wsX9_shore := by decide +kernel
set_option maxRecDepth 20000 in
theorem kX9_shore_1 : Cond.fieldLink RX9 10 "StoneRiver" "now" "LStoneRiver$Found;" ∈ wsX9_shore := by decide +kernel
set_option maxRecDepth 20000 in
theorem kX9_shore_2 : ∀ w ∈ u_ws RX1 TX1 10, w ∈ wsX9_shore := by decide +kernel
set_option maxRecDepth 20000 in
theorem kX9_shore_3 : Cond.fieldLink RX9 211 "StoneRiver$Found" "areas" "[I" ∈ wsX9_shore := by decide +kernel
set_option maxRecDepth 20000 in
theorem kX9_shore_4 : Cond.methodLink RX9 79 Lib.Math.min.name ∈ wsX9_shore := by decide +kernel
set_option maxRecDepth 20000 in
theorem kX9_shore_5 : Cond.static Lib.Math.min.name ∈ wsX9_shore := by decide +kernel
set_option maxRecDepth 20000 in
theorem kX9_shore_6 : Cond.initialized "java/lang/Math" ∈ wsX9_shore := by decide +kernel
set_option maxRecDepth 20000 in
theorem kX9_shore_7 : Cond.code Lib.Math.min.name Lib.Math.min.code 2 (some .int) ∈ wsX9_shore := by decide +kernel
set_option maxRecDepth 20000 in
theorem kX9_shore_8 : Cond.methodLink RX9 85 Lib.Math.max.name ∈ wsX9_shore := by decide +kernel
set_option maxRecDepth 20000 in
theorem kX9_shore_9 : Cond.static Lib.Math.max.name ∈ wsX9_shore := by decide +kernel
set_option maxRecDepth 20000 in
theorem kX9_shore_10 : Cond.code Lib.Math.max.name Lib.Math.max.code 2 (some .int) ∈ wsX9_shore := by decide +kernel
set_option maxHeartbeats 4000000 in
set_option maxRecDepth 100000 in
theorem c_X9_shore (l : Launch) (dC : Nat → ClassId) (dI : Nat → Nat → Nat) (cI cZ : ClassId) (te : Nat → Nat) (h_t : Nat) (h_t_now : Nat) (h_t_beforeRead : Nat) (h_t_firstImage : Nat) (h_t_secondImage : Nat) (h_t_valley : Nat) (h_t_ages : Nat) (h_t_fronts : Nat) (h_t_outburst : Nat) (h_t_text : Nat) (h_t_now_surfaces : Nat) (h_t_now_cliffs : Nat) (h_t_now_boulders : Nat) (h_t_now_scratches : Nat) (h_t_now_numbers : Nat) (h_t_now_facts : Nat) (h_t_now_signs : Nat) (h_t_now_areas : Nat) (h_t_now_heights : Nat) (t_firstKept : Int32) (t_secondKept : Int32) (t_now_ridges : Int32) (t_now_areas : Nat → Int32) (p1 : Int32) (p2 : Int32) (p3 : Int32) (p4 : Int32) (o0 : Int32) (hf : f_X9_shore t_now_areas p1 p2 p3 p4 = some o0) : CM l yX9_shore wsX9_shore rmX9_shore (kS te) dC dI cI cZ [.ref h_t, .int p1, .int p2, .int p3, .int p4] [(h_t, .inr (7, fX9 h_t_now h_t_beforeRead h_t_firstImage h_t_secondImage h_t_valley h_t_ages h_t_fronts h_t_outburst h_t_text t_firstKept t_secondKept)), (h_t_now, .inr (1, fX1 h_t_now_surfaces h_t_now_cliffs h_t_now_boulders h_t_now_scratches h_t_now_numbers h_t_now_facts h_t_now_signs h_t_now_areas h_t_now_heights t_now_ridges)), (h_t_now_areas, .inl (cI, 20, .inl t_now_areas))] [(h_t, .inr (7, fX9 h_t_now h_t_beforeRead h_t_firstImage h_t_secondImage h_t_valley h_t_ages h_t_fronts h_t_outburst h_t_text t_firstKept t_secondKept)), (h_t_now, .inr (1, fX1 h_t_now_surfaces h_t_now_cliffs h_t_now_boulders h_t_now_scratches h_t_now_numbers h_t_now_facts h_t_now_signs h_t_now_areas h_t_now_heights t_now_ridges)), (h_t_now_areas, .inl (cI, 20, .inl t_now_areas))] (some (.int o0)) := by
  refine CM_of (cc := cX9_shore) (maxL := 6) (ret := (some .int)) (by decide +kernel) rfl (Nat.le_of_ble_eq_true rfl) ?_
  intro p e s m args below meth c A Q hx hb hr hml hown hts hlocks hA hK hP hD hS hE hQ hAe ls hl
  have hown : s.vm.findClass RX9 = some m.cls := hown
  have hl : lv_has ls 6 [(0, .ref h_t), (1, .int p1), (2, .int p2), (3, .int p3), (4, .int p4)] := hl
  unfold f_X9_shore at hf
  refine lv_iload_n hx hb dX9_shore_0 rfl (lv_at hl 1 rfl) ?_
  refine lv_iload_n hx hb dX9_shore_1 rfl (lv_at hl 2 rfl) ?_
  obtain ⟨r1, hg2, hf⟩ := bd1_some hf
  refine CM_callS (As := [.int p1, .int p2]) (rest := []) (wc := []) (w1 := []) (wr := [(h_t, .inr (7, fX9 h_t_now h_t_beforeRead h_t_firstImage h_t_secondImage h_t_valley h_t_ages h_t_fronts h_t_outburst h_t_text t_firstKept t_secondKept)), (h_t_now, .inr (1, fX1 h_t_now_surfaces h_t_now_cliffs h_t_now_boulders h_t_now_scratches h_t_now_numbers h_t_now_facts h_t_now_signs h_t_now_areas h_t_now_heights t_now_ridges)), (h_t_now_areas, .inl (cI, 20, .inl t_now_areas))]) (wo := [(h_t, .inr (7, fX9 h_t_now h_t_beforeRead h_t_firstImage h_t_secondImage h_t_valley h_t_ages h_t_fronts h_t_outburst h_t_text t_firstKept t_secondKept)), (h_t_now, .inr (1, fX1 h_t_now_surfaces h_t_now_cliffs h_t_now_boulders h_t_now_scratches h_t_now_numbers h_t_now_facts h_t_now_signs h_t_now_areas h_t_now_heights t_now_ridges)), (h_t_now_areas, .inl (cI, 20, .inl t_now_areas))]) (v := (some (.int r1))) ⟨hx, hb, hml, hown, hts⟩ (c_X9_isHeightAndSill l dC dI cI cZ te p1 p2 r1 hg2) (va_cwS 2 hts gX9_shore_X9_isHeightAndSill rfl rfl rfl (by decide +kernel) ⟨Nat.le_of_ble_eq_true rfl, Nat.le_of_ble_eq_true rfl⟩) (kS_env te) hK hP hD hS hA hE [] [0, 1, 2] [0, 1, 2] rfl rfl (by decide) (by decide) (by decide) (by decide) rfl rfl hl.1 rfl (Nat.le_of_ble_eq_true rfl) dX9_shore_2 ⟨Nat.zero_le _, Nat.zero_le _⟩ (fun H locs hP hD hS => ?_)
  show W p l e rmX9_shore s m args below meth c H locs 0 0 Q (F0 m 5 ls [.int r1])
  refine lv_if_eq (tgt := 28) hx hb dX9_shore_5 (by decide) (fun c3 => ?_) (fun c3 => ?_)
  · replace hf := ifp c3 hf
    refine lv_bipush (v := (-2 : Int32)) hx hb dX9_shore_28 (by decide) ?_
    obtain rfl := inj1 hf
    subst hQ
    exact CM_iret hx hb hr rfl hlocks hAe hP hD hS dX9_shore_30
  · replace hf := ifn c3 hf
    refine lv_iload_n hx hb dX9_shore_8 rfl (lv_at hl 3 rfl) ?_
    refine lv_iconst (v := (0 : Int32)) hx hb dX9_shore_9 (by decide) ?_
    refine lv_bipush (v := (20 : Int32)) hx hb dX9_shore_10 (by decide) ?_
    obtain ⟨r4, hg5, hf⟩ := bd1_some hf
    refine CM_callS (As := [.int p3, .int (0 : Int32), .int (20 : Int32)]) (rest := []) (wc := []) (w1 := []) (wr := [(h_t, .inr (7, fX9 h_t_now h_t_beforeRead h_t_firstImage h_t_secondImage h_t_valley h_t_ages h_t_fronts h_t_outburst h_t_text t_firstKept t_secondKept)), (h_t_now, .inr (1, fX1 h_t_now_surfaces h_t_now_cliffs h_t_now_boulders h_t_now_scratches h_t_now_numbers h_t_now_facts h_t_now_signs h_t_now_areas h_t_now_heights t_now_ridges)), (h_t_now_areas, .inl (cI, 20, .inl t_now_areas))]) (wo := [(h_t, .inr (7, fX9 h_t_now h_t_beforeRead h_t_firstImage h_t_secondImage h_t_valley h_t_ages h_t_fronts h_t_outburst h_t_text t_firstKept t_secondKept)), (h_t_now, .inr (1, fX1 h_t_now_surfaces h_t_now_cliffs h_t_now_boulders h_t_now_scratches h_t_now_numbers h_t_now_facts h_t_now_signs h_t_now_areas h_t_now_heights t_now_ridges)), (h_t_now_areas, .inl (cI, 20, .inl t_now_areas))]) (v := (some (.int r4))) ⟨hx, hb, hml, hown, hts⟩ (c_X9_within l dC dI cI cZ te p3 (0 : Int32) (20 : Int32) r4 hg5) (va_cwS 3 hts gX9_shore_X9_within rfl rfl rfl (by decide +kernel) ⟨Nat.le_of_ble_eq_true rfl, Nat.le_of_ble_eq_true rfl⟩) (kS_env te) hK hP hD hS hA hE [] [0, 1, 2] [0, 1, 2] rfl rfl (by decide) (by decide) (by decide) (by decide) rfl rfl hl.1 rfl (Nat.le_of_ble_eq_true rfl) dX9_shore_12 ⟨Nat.zero_le _, Nat.zero_le _⟩ (fun H locs hP hD hS => ?_)
    show W p l e rmX9_shore s m args below meth c H locs 0 0 Q (F0 m 15 ls [.int r4])
    refine lv_if_eq (tgt := 28) hx hb dX9_shore_15 (by decide) (fun c6 => ?_) (fun c6 => ?_)
    · replace hf := ifp c6 hf
      refine lv_bipush (v := (-2 : Int32)) hx hb dX9_shore_28 (by decide) ?_
      obtain rfl := inj1 hf
      subst hQ
      exact CM_iret hx hb hr rfl hlocks hAe hP hD hS dX9_shore_30
    · replace hf := ifn c6 hf
      refine lv_iload hx hb dX9_shore_18 (lv_at hl 4 rfl) ?_
      refine lv_iconst (v := (0 : Int32)) hx hb dX9_shore_20 (by decide) ?_
      refine lv_iconst (v := (1 : Int32)) hx hb dX9_shore_21 (by decide) ?_
      obtain ⟨r7, hg8, hf⟩ := bd1_some hf
      refine CM_callS (As := [.int p4, .int (0 : Int32), .int (1 : Int32)]) (rest := []) (wc := []) (w1 := []) (wr := [(h_t, .inr (7, fX9 h_t_now h_t_beforeRead h_t_firstImage h_t_secondImage h_t_valley h_t_ages h_t_fronts h_t_outburst h_t_text t_firstKept t_secondKept)), (h_t_now, .inr (1, fX1 h_t_now_surfaces h_t_now_cliffs h_t_now_boulders h_t_now_scratches h_t_now_numbers h_t_now_facts h_t_now_signs h_t_now_areas h_t_now_heights t_now_ridges)), (h_t_now_areas, .inl (cI, 20, .inl t_now_areas))]) (wo := [(h_t, .inr (7, fX9 h_t_now h_t_beforeRead h_t_firstImage h_t_secondImage h_t_valley h_t_ages h_t_fronts h_t_outburst h_t_text t_firstKept t_secondKept)), (h_t_now, .inr (1, fX1 h_t_now_surfaces h_t_now_cliffs h_t_now_boulders h_t_now_scratches h_t_now_numbers h_t_now_facts h_t_now_signs h_t_now_areas h_t_now_heights t_now_ridges)), (h_t_now_areas, .inl (cI, 20, .inl t_now_areas))]) (v := (some (.int r7))) ⟨hx, hb, hml, hown, hts⟩ (c_X9_within l dC dI cI cZ te p4 (0 : Int32) (1 : Int32) r7 hg8) (va_cwS 3 hts gX9_shore_X9_within rfl rfl rfl (by decide +kernel) ⟨Nat.le_of_ble_eq_true rfl, Nat.le_of_ble_eq_true rfl⟩) (kS_env te) hK hP hD hS hA hE [] [0, 1, 2] [0, 1, 2] rfl rfl (by decide) (by decide) (by decide) (by decide) rfl rfl hl.1 rfl (Nat.le_of_ble_eq_true rfl) dX9_shore_22 ⟨Nat.zero_le _, Nat.zero_le _⟩ (fun H locs hP hD hS => ?_)
      show W p l e rmX9_shore s m args below meth c H locs 0 0 Q (F0 m 25 ls [.int r7])
      refine lv_if_ne (tgt := 31) hx hb dX9_shore_25 (by decide) (fun c9 => ?_) (fun c9 => ?_)
      · replace hf := ifn c9 hf
        refine lv_iload hx hb dX9_shore_31 (lv_at hl 4 rfl) ?_
        obtain ⟨x10, hg, hf⟩ := bd1_some hf
        have J11 : ∀ (H : Heap) (locs : List Loc), va_P (dC, dI) vwCl [(h_t, .inr (7, fX9 h_t_now h_t_beforeRead h_t_firstImage h_t_secondImage h_t_valley h_t_ages h_t_fronts h_t_outburst h_t_text t_firstKept t_secondKept)), (h_t_now, .inr (1, fX1 h_t_now_surfaces h_t_now_cliffs h_t_now_boulders h_t_now_scratches h_t_now_numbers h_t_now_facts h_t_now_signs h_t_now_areas h_t_now_heights t_now_ridges)), (h_t_now_areas, .inl (cI, 20, .inl t_now_areas))] H → va_D A [(h_t, .inr (7, fX9 h_t_now h_t_beforeRead h_t_firstImage h_t_secondImage h_t_valley h_t_ages h_t_fronts h_t_outburst h_t_text t_firstKept t_secondKept)), (h_t_now, .inr (1, fX1 h_t_now_surfaces h_t_now_cliffs h_t_now_boulders h_t_now_scratches h_t_now_numbers h_t_now_facts h_t_now_signs h_t_now_areas h_t_now_heights t_now_ridges)), (h_t_now_areas, .inl (cI, 20, .inl t_now_areas))] → va_S A s.heap H locs → ∀ ls : Array Slot, lv_has ls 6 [(0, .ref h_t), (2, .int p2)] → W p l e rmX9_shore s m args below meth c H locs 0 0 Q (F0 m 56 ls [.int x10]) := by
          intro H locs hP hD hS ls hl
          refine lv_istore (lv' := [(5, .int x10), (0, .ref h_t), (2, .int p2)]) hx hb dX9_shore_56 hl (by decide) rfl (fun ls hl => ?_)
          refine lv_aload_n hx hb dX9_shore_58 rfl (lv_at hl 1 rfl) ?_
          refine va_get (D := (dC, dI)) (ci := 7) (v := .ref h_t_now) (C := RX9) (T := TX9) (N := 11) hx hb hts kX9_shore_0 hown hK hP 0 rfl rfl 0 (by decide) (hts _ kX9_shore_1) (fun _ h9 => h9) rfl dX9_shore_59 ?_
          refine va_get (D := (dC, dI)) (ci := 1) (v := .ref h_t_now_areas) (C := RX1) (T := TX1) (N := 10) hx hb hts kX9_shore_2 hown hK hP 1 rfl rfl 7 (by decide) (hts _ kX9_shore_3) (fun _ h9 => h9) rfl dX9_shore_62 ?_
          refine lv_iload hx hb dX9_shore_65 (lv_at hl 0 rfl) ?_
          refine lv_iload_n hx hb dX9_shore_67 rfl (lv_at hl 2 rfl) ?_
          obtain ⟨r12, hg13, hf⟩ := bd1_some hf
          refine CM_callS (As := [.ref h_t_now_areas, .int x10, .int p2]) (rest := []) (wc := [(h_t_now_areas, .inl (cI, 20, .inl t_now_areas))]) (w1 := [(h_t_now_areas, .inl (cI, 20, .inl t_now_areas))]) (wr := [(h_t, .inr (7, fX9 h_t_now h_t_beforeRead h_t_firstImage h_t_secondImage h_t_valley h_t_ages h_t_fronts h_t_outburst h_t_text t_firstKept t_secondKept)), (h_t_now, .inr (1, fX1 h_t_now_surfaces h_t_now_cliffs h_t_now_boulders h_t_now_scratches h_t_now_numbers h_t_now_facts h_t_now_signs h_t_now_areas h_t_now_heights t_now_ridges))]) (wo := [(h_t, .inr (7, fX9 h_t_now h_t_beforeRead h_t_firstImage h_t_secondImage h_t_valley h_t_ages h_t_fronts h_t_outburst h_t_text t_firstKept t_secondKept)), (h_t_now, .inr (1, fX1 h_t_now_surfaces h_t_now_cliffs h_t_now_boulders h_t_now_scratches h_t_now_numbers h_t_now_facts h_t_now_signs h_t_now_areas h_t_now_heights t_now_ridges)), (h_t_now_areas, .inl (cI, 20, .inl t_now_areas))]) (v := (some (.int r12))) ⟨hx, hb, hml, hown, hts⟩ (c_X3_volume l dC dI cI cZ te h_t_now_areas (20) t_now_areas x10 p2 r12 hg13) (va_cwS 3 hts gX9_shore_X3_volume rfl rfl rfl (by decide +kernel) ⟨Nat.le_of_ble_eq_true rfl, Nat.le_of_ble_eq_true rfl⟩) (kS_env te) hK hP hD hS hA hE [2] [0, 1] [0, 1, 2] rfl rfl (by decide) (by decide) (by decide) (by decide) rfl rfl hl.1 rfl (Nat.le_of_ble_eq_true rfl) dX9_shore_68 ⟨Nat.zero_le _, Nat.zero_le _⟩ (fun H locs hP hD hS => ?_)
          show W p l e rmX9_shore s m args below meth c H locs 0 0 Q (F0 m 71 ls [.int r12])
          obtain rfl := inj1 hf
          subst hQ
          exact CM_iret hx hb hr rfl hlocks hAe hP hD hS dX9_shore_71
        clear hf
        have hf := hg
        refine lv_if_ne (tgt := 48) hx hb dX9_shore_33 (by decide) (fun c14 => ?_) (fun c14 => ?_)
        · replace hf := ifn c14 hf
          refine lv_iload_n hx hb dX9_shore_48 rfl (lv_at hl 1 rfl) ?_
          refine lv_iload_n hx hb dX9_shore_49 rfl (lv_at hl 3 rfl) ?_
          refine lv_iadd hx hb dX9_shore_50 ?_
          refine lv_bipush (v := (20 : Int32)) hx hb dX9_shore_51 (by decide) ?_
          refine va_mmin hx hb (hml.trans hl.1.symm) hown (hts _ kX9_shore_4) (hts _ kX9_shore_5) (hts _ kX9_shore_6) (hts _ kX9_shore_7) (Nat.le_of_ble_eq_true rfl) (Nat.le_of_ble_eq_true rfl) (Nat.zero_le _) (Nat.zero_le _) dX9_shore_53 ?_
          obtain rfl := inj1 hf
          exact J11 _ _ hP hD hS _ (lv_sub hl [0, 2] rfl)
        · replace hf := ifp c14 hf
          refine lv_iload_n hx hb dX9_shore_36 rfl (lv_at hl 1 rfl) ?_
          refine lv_iload_n hx hb dX9_shore_37 rfl (lv_at hl 3 rfl) ?_
          refine lv_isub hx hb dX9_shore_38 ?_
          refine lv_iload_n hx hb dX9_shore_39 rfl (lv_at hl 2 rfl) ?_
          refine lv_iconst (v := (1 : Int32)) hx hb dX9_shore_40 (by decide) ?_
          refine lv_iadd hx hb dX9_shore_41 ?_
          refine va_mmax hx hb (hml.trans hl.1.symm) hown (hts _ kX9_shore_8) (hts _ kX9_shore_9) (hts _ kX9_shore_6) (hts _ kX9_shore_10) (Nat.le_of_ble_eq_true rfl) (Nat.le_of_ble_eq_true rfl) (Nat.zero_le _) (Nat.zero_le _) dX9_shore_42 ?_
          refine lv_goto (tgt := 56) hx hb dX9_shore_45 (by decide) ?_
          obtain rfl := inj1 hf
          exact J11 _ _ hP hD hS _ (lv_sub hl [0, 2] rfl)
      · replace hf := ifp c9 hf
        refine lv_bipush (v := (-2 : Int32)) hx hb dX9_shore_28 (by decide) ?_
        obtain rfl := inj1 hf
        subst hQ
        exact CM_iret hx hb hr rfl hlocks hAe hP hD hS dX9_shore_30
def rmX9_isZone : Room := { frames := 1, cells := 0, slots := 0, locals := 22 }
set_option maxHeartbeats 4000000 in
set_option maxRecDepth 100000 in
theorem c_X9_isZone (l : Launch) (dC : Nat → ClassId) (dI : Nat → Nat → Nat) (cI cZ : ClassId) (te : Nat → Nat) (p1 : Int32) (o0 : Int32) (hf : f_X9_isZone p1 = some o0) : CM l yX9_isZone wsX9_isZone rmX9_isZone (kS te) dC dI cI cZ [.int p1] [] [] (some (.int o0)) := by
  refine CM_of (cc := cX9_isZone) (maxL := 1) (ret := (some .boolean)) (by decide +kernel) rfl (Nat.le_of_ble_eq_true rfl) ?_
  intro p e s m args below meth c A Q hx hb hr hml hown hts hlocks hA hK hP hD hS hE hQ hAe ls hl
  have hown : s.vm.findClass RX9 = some m.cls := hown
  have hl : lv_has ls 1 [(0, .int p1)] := hl
  unfold f_X9_isZone at hf
  refine lv_iload_n hx hb dX9_isZone_0 rfl (lv_at hl 0 rfl) ?_
  refine lv_iconst (v := (0 : Int32)) hx hb dX9_isZone_1 (by decide) ?_
  refine lv_bipush (v := (20 : Int32)) hx hb dX9_isZone_2 (by decide) ?_
  obtain ⟨r1, hg2, hf⟩ := bd1_some hf
  refine CM_callS (As := [.int p1, .int (0 : Int32), .int (20 : Int32)]) (rest := []) (wc := []) (w1 := []) (wr := []) (wo := []) (v := (some (.int r1))) ⟨hx, hb, hml, hown, hts⟩ (c_X9_within l dC dI cI cZ te p1 (0 : Int32) (20 : Int32) r1 hg2) (va_cwS 3 hts gX9_isZone_X9_within rfl rfl rfl (by decide +kernel) ⟨Nat.le_of_ble_eq_true rfl, Nat.le_of_ble_eq_true rfl⟩) (kS_env te) hK hP hD hS hA hE [] [] [] rfl rfl (by decide) (by decide) (by decide) (by decide) rfl rfl hl.1 rfl (Nat.le_of_ble_eq_true rfl) dX9_isZone_4 ⟨Nat.zero_le _, Nat.zero_le _⟩ (fun H locs hP hD hS => ?_)
  show W p l e rmX9_isZone s m args below meth c H locs 0 0 Q (F0 m 7 ls [.int r1])
  obtain ⟨g3, hf⟩ := chk_some hf
  obtain rfl := inj1 hf
  subst hQ
  exact CM_iret hx hb hr (gz_n g3) hlocks hAe hP hD hS dX9_isZone_7
def rmX9_isWarmth : Room := { frames := 1, cells := 0, slots := 0, locals := 22 }
set_option maxHeartbeats 4000000 in
set_option maxRecDepth 100000 in
theorem c_X9_isWarmth (l : Launch) (dC : Nat → ClassId) (dI : Nat → Nat → Nat) (cI cZ : ClassId) (te : Nat → Nat) (p1 : Int32) (o0 : Int32) (hf : f_X9_isWarmth p1 = some o0) : CM l yX9_isWarmth wsX9_isWarmth rmX9_isWarmth (kS te) dC dI cI cZ [.int p1] [] [] (some (.int o0)) := by
  refine CM_of (cc := cX9_isWarmth) (maxL := 1) (ret := (some .boolean)) (by decide +kernel) rfl (Nat.le_of_ble_eq_true rfl) ?_
  intro p e s m args below meth c A Q hx hb hr hml hown hts hlocks hA hK hP hD hS hE hQ hAe ls hl
  have hown : s.vm.findClass RX9 = some m.cls := hown
  have hl : lv_has ls 1 [(0, .int p1)] := hl
  unfold f_X9_isWarmth at hf
  refine lv_iload_n hx hb dX9_isWarmth_0 rfl (lv_at hl 0 rfl) ?_
  refine lv_iconst (v := (0 : Int32)) hx hb dX9_isWarmth_1 (by decide) ?_
  refine lv_bipush (v := (60 : Int32)) hx hb dX9_isWarmth_2 (by decide) ?_
  obtain ⟨r1, hg2, hf⟩ := bd1_some hf
  refine CM_callS (As := [.int p1, .int (0 : Int32), .int (60 : Int32)]) (rest := []) (wc := []) (w1 := []) (wr := []) (wo := []) (v := (some (.int r1))) ⟨hx, hb, hml, hown, hts⟩ (c_X9_within l dC dI cI cZ te p1 (0 : Int32) (60 : Int32) r1 hg2) (va_cwS 3 hts gX9_isWarmth_X9_within rfl rfl rfl (by decide +kernel) ⟨Nat.le_of_ble_eq_true rfl, Nat.le_of_ble_eq_true rfl⟩) (kS_env te) hK hP hD hS hA hE [] [] [] rfl rfl (by decide) (by decide) (by decide) (by decide) rfl rfl hl.1 rfl (Nat.le_of_ble_eq_true rfl) dX9_isWarmth_4 ⟨Nat.zero_le _, Nat.zero_le _⟩ (fun H locs hP hD hS => ?_)
  show W p l e rmX9_isWarmth s m args below meth c H locs 0 0 Q (F0 m 7 ls [.int r1])
  obtain ⟨g3, hf⟩ := chk_some hf
  obtain rfl := inj1 hf
  subst hQ
  exact CM_iret hx hb hr (gz_n g3) hlocks hAe hP hD hS dX9_isWarmth_7
def rmX9_zone : Room := { frames := 2, cells := 0, slots := 0, locals := 42 }
set_option maxRecDepth 20000 in
theorem kX9_zone_0 : ∀ w ∈ u_ws RX9 TX9 11, w ∈ wsX9_zone := by decide +kernel
set_option maxRecDepth 20000 in
theorem kX9_zone_1 : Cond.fieldLink RX9 10 "StoneRiver" "now" "LStoneRiver$Found;" ∈ wsX9_zone := by decide +kernel
set_option maxRecDepth 20000 in
theorem kX9_zone_2 : ∀ w ∈ u_ws RX1 TX1 10, w ∈ wsX9_zone := by decide +kernel
set_option maxRecDepth 20000 in
theorem kX9_zone_3 : Cond.fieldLink RX9 236 "StoneRiver$Found" "heights" "[I" ∈ wsX9_zone := by decide +kernel
set_option maxHeartbeats 4000000 in
set_option maxRecDepth 100000 in
theorem c_X9_zone (l : Launch) (dC : Nat → ClassId) (dI : Nat → Nat → Nat) (cI cZ : ClassId) (te : Nat → Nat) (h_t : Nat) (h_t_now : Nat) (h_t_beforeRead : Nat) (h_t_firstImage : Nat) (h_t_secondImage : Nat) (h_t_valley : Nat) (h_t_ages : Nat) (h_t_fronts : Nat) (h_t_outburst : Nat) (h_t_text : Nat) (h_t_now_surfaces : Nat) (h_t_now_cliffs : Nat) (h_t_now_boulders : Nat) (h_t_now_scratches : Nat) (h_t_now_numbers : Nat) (h_t_now_facts : Nat) (h_t_now_signs : Nat) (h_t_now_areas : Nat) (h_t_now_heights : Nat) (t_firstKept : Int32) (t_secondKept : Int32) (t_now_ridges : Int32) (t_now_heights : Nat → Int32) (p1 : Int32) (p2 : Int32) (o0 : Int32) (o1 : Nat → Int32) (hf : f_X9_zone t_now_heights p1 p2 = some (o0, o1)) : CM l yX9_zone wsX9_zone rmX9_zone (kS te) dC dI cI cZ [.ref h_t, .int p1, .int p2] [(h_t, .inr (7, fX9 h_t_now h_t_beforeRead h_t_firstImage h_t_secondImage h_t_valley h_t_ages h_t_fronts h_t_outburst h_t_text t_firstKept t_secondKept)), (h_t_now, .inr (1, fX1 h_t_now_surfaces h_t_now_cliffs h_t_now_boulders h_t_now_scratches h_t_now_numbers h_t_now_facts h_t_now_signs h_t_now_areas h_t_now_heights t_now_ridges)), (h_t_now_heights, .inl (cI, 21, .inl t_now_heights))] [(h_t, .inr (7, fX9 h_t_now h_t_beforeRead h_t_firstImage h_t_secondImage h_t_valley h_t_ages h_t_fronts h_t_outburst h_t_text t_firstKept t_secondKept)), (h_t_now, .inr (1, fX1 h_t_now_surfaces h_t_now_cliffs h_t_now_boulders h_t_now_scratches h_t_now_numbers h_t_now_facts h_t_now_signs h_t_now_areas h_t_now_heights t_now_ridges)), (h_t_now_heights, .inl (cI, 21, .inl o1))] (some (.int o0)) := by
  refine CM_of (cc := cX9_zone) (maxL := 3) (ret := (some .int)) (by decide +kernel) rfl (Nat.le_of_ble_eq_true rfl) ?_
  intro p e s m args below meth c A Q hx hb hr hml hown hts hlocks hA hK hP hD hS hE hQ hAe ls hl
  have hown : s.vm.findClass RX9 = some m.cls := hown
  have hl : lv_has ls 3 [(0, .ref h_t), (1, .int p1), (2, .int p2)] := hl
  unfold f_X9_zone at hf
  refine lv_iload_n hx hb dX9_zone_0 rfl (lv_at hl 1 rfl) ?_
  obtain ⟨r1, hg2, hf⟩ := bd1_some hf
  refine CM_callS (As := [.int p1]) (rest := []) (wc := []) (w1 := []) (wr := [(h_t, .inr (7, fX9 h_t_now h_t_beforeRead h_t_firstImage h_t_secondImage h_t_valley h_t_ages h_t_fronts h_t_outburst h_t_text t_firstKept t_secondKept)), (h_t_now, .inr (1, fX1 h_t_now_surfaces h_t_now_cliffs h_t_now_boulders h_t_now_scratches h_t_now_numbers h_t_now_facts h_t_now_signs h_t_now_areas h_t_now_heights t_now_ridges)), (h_t_now_heights, .inl (cI, 21, .inl t_now_heights))]) (wo := [(h_t, .inr (7, fX9 h_t_now h_t_beforeRead h_t_firstImage h_t_secondImage h_t_valley h_t_ages h_t_fronts h_t_outburst h_t_text t_firstKept t_secondKept)), (h_t_now, .inr (1, fX1 h_t_now_surfaces h_t_now_cliffs h_t_now_boulders h_t_now_scratches h_t_now_numbers h_t_now_facts h_t_now_signs h_t_now_areas h_t_now_heights t_now_ridges)), (h_t_now_heights, .inl (cI, 21, .inl t_now_heights))]) (v := (some (.int r1))) ⟨hx, hb, hml, hown, hts⟩ (c_X9_isZone l dC dI cI cZ te p1 r1 hg2) (va_cwS 1 hts gX9_zone_X9_isZone rfl rfl rfl (by decide +kernel) ⟨Nat.le_of_ble_eq_true rfl, Nat.le_of_ble_eq_true rfl⟩) (kS_env te) hK hP hD hS hA hE [] [0, 1, 2] [0, 1, 2] rfl rfl (by decide) (by decide) (by decide) (by decide) rfl rfl hl.1 rfl (Nat.le_of_ble_eq_true rfl) dX9_zone_1 ⟨Nat.zero_le _, Nat.zero_le _⟩ (fun H locs hP hD hS => ?_)
  show W p l e rmX9_zone s m args below meth c H locs 0 0 Q (F0 m 4 ls [.int r1])
  refine lv_if_eq (tgt := 29) hx hb dX9_zone_4 (by decide) (fun c3 => ?_) (fun c3 => ?_)
  · replace hf := ifp c3 hf
    refine lv_bipush (v := (-2 : Int32)) hx hb dX9_zone_29 (by decide) ?_
    obtain ⟨rfl, rfl⟩ := inj2 hf
    subst hQ
    exact CM_iret hx hb hr rfl hlocks hAe hP hD hS dX9_zone_31
  · replace hf := ifn c3 hf
    refine lv_iload_n hx hb dX9_zone_7 rfl (lv_at hl 2 rfl) ?_
    obtain ⟨r4, hg5, hf⟩ := bd1_some hf
    refine CM_callS (As := [.int p2]) (rest := []) (wc := []) (w1 := []) (wr := [(h_t, .inr (7, fX9 h_t_now h_t_beforeRead h_t_firstImage h_t_secondImage h_t_valley h_t_ages h_t_fronts h_t_outburst h_t_text t_firstKept t_secondKept)), (h_t_now, .inr (1, fX1 h_t_now_surfaces h_t_now_cliffs h_t_now_boulders h_t_now_scratches h_t_now_numbers h_t_now_facts h_t_now_signs h_t_now_areas h_t_now_heights t_now_ridges)), (h_t_now_heights, .inl (cI, 21, .inl t_now_heights))]) (wo := [(h_t, .inr (7, fX9 h_t_now h_t_beforeRead h_t_firstImage h_t_secondImage h_t_valley h_t_ages h_t_fronts h_t_outburst h_t_text t_firstKept t_secondKept)), (h_t_now, .inr (1, fX1 h_t_now_surfaces h_t_now_cliffs h_t_now_boulders h_t_now_scratches h_t_now_numbers h_t_now_facts h_t_now_signs h_t_now_areas h_t_now_heights t_now_ridges)), (h_t_now_heights, .inl (cI, 21, .inl t_now_heights))]) (v := (some (.int r4))) ⟨hx, hb, hml, hown, hts⟩ (c_X9_isWarmth l dC dI cI cZ te p2 r4 hg5) (va_cwS 1 hts gX9_zone_X9_isWarmth rfl rfl rfl (by decide +kernel) ⟨Nat.le_of_ble_eq_true rfl, Nat.le_of_ble_eq_true rfl⟩) (kS_env te) hK hP hD hS hA hE [] [0, 1, 2] [0, 1, 2] rfl rfl (by decide) (by decide) (by decide) (by decide) rfl rfl hl.1 rfl (Nat.le_of_ble_eq_true rfl) dX9_zone_8 ⟨Nat.zero_le _, Nat.zero_le _⟩ (fun H locs hP hD hS => ?_)
    show W p l e rmX9_zone s m args below meth c H locs 0 0 Q (F0 m 11 ls [.int r4])
    refine lv_if_eq (tgt := 29) hx hb dX9_zone_11 (by decide) (fun c6 => ?_) (fun c6 => ?_)
    · replace hf := ifp c6 hf
      refine lv_bipush (v := (-2 : Int32)) hx hb dX9_zone_29 (by decide) ?_
      obtain ⟨rfl, rfl⟩ := inj2 hf
      subst hQ
      exact CM_iret hx hb hr rfl hlocks hAe hP hD hS dX9_zone_31
    · replace hf := ifn c6 hf
      refine lv_aload_n hx hb dX9_zone_14 rfl (lv_at hl 0 rfl) ?_
      refine va_get (D := (dC, dI)) (ci := 7) (v := .ref h_t_now) (C := RX9) (T := TX9) (N := 11) hx hb hts kX9_zone_0 hown hK hP 0 rfl rfl 0 (by decide) (hts _ kX9_zone_1) (fun _ h9 => h9) rfl dX9_zone_15 ?_
      refine va_get (D := (dC, dI)) (ci := 1) (v := .ref h_t_now_heights) (C := RX1) (T := TX1) (N := 10) hx hb hts kX9_zone_2 hown hK hP 1 rfl rfl 8 (by decide) (hts _ kX9_zone_3) (fun _ h9 => h9) rfl dX9_zone_18 ?_
      refine lv_iload_n hx hb dX9_zone_21 rfl (lv_at hl 1 rfl) ?_
      refine lv_iload_n hx hb dX9_zone_22 rfl (lv_at hl 2 rfl) ?_
      obtain ⟨r7, y8, hg9, hf⟩ := bd2_some hf
      refine CM_callS (As := [.ref h_t_now_heights, .int p1, .int p2]) (rest := []) (wc := [(h_t_now_heights, .inl (cI, 21, .inl t_now_heights))]) (w1 := [(h_t_now_heights, .inl (cI, 21, .inl y8))]) (wr := [(h_t, .inr (7, fX9 h_t_now h_t_beforeRead h_t_firstImage h_t_secondImage h_t_valley h_t_ages h_t_fronts h_t_outburst h_t_text t_firstKept t_secondKept)), (h_t_now, .inr (1, fX1 h_t_now_surfaces h_t_now_cliffs h_t_now_boulders h_t_now_scratches h_t_now_numbers h_t_now_facts h_t_now_signs h_t_now_areas h_t_now_heights t_now_ridges))]) (wo := [(h_t, .inr (7, fX9 h_t_now h_t_beforeRead h_t_firstImage h_t_secondImage h_t_valley h_t_ages h_t_fronts h_t_outburst h_t_text t_firstKept t_secondKept)), (h_t_now, .inr (1, fX1 h_t_now_surfaces h_t_now_cliffs h_t_now_boulders h_t_now_scratches h_t_now_numbers h_t_now_facts h_t_now_signs h_t_now_areas h_t_now_heights t_now_ridges)), (h_t_now_heights, .inl (cI, 21, .inl y8))]) (v := (some (.int r7))) ⟨hx, hb, hml, hown, hts⟩ (c_X9_exchange l dC dI cI cZ te h_t_now_heights (21) t_now_heights p1 p2 r7 y8 hg9) (va_cwS 3 hts gX9_zone_X9_exchange rfl rfl rfl (by decide +kernel) ⟨Nat.le_of_ble_eq_true rfl, Nat.le_of_ble_eq_true rfl⟩) (kS_env te) hK hP hD hS hA hE [2] [0, 1] [0, 1, 2] rfl rfl (by decide) (by decide) (by decide) (by decide) rfl rfl hl.1 rfl (Nat.le_of_ble_eq_true rfl) dX9_zone_23 ⟨Nat.zero_le _, Nat.zero_le _⟩ (fun H locs hP hD hS => ?_)
      show W p l e rmX9_zone s m args below meth c H locs 0 0 Q (F0 m 26 ls [.int r7])
      refine lv_goto (tgt := 31) hx hb dX9_zone_26 (by decide) ?_
      obtain ⟨rfl, rfl⟩ := inj2 hf
      subst hQ
      exact CM_iret hx hb hr rfl hlocks hAe hP hD hS dX9_zone_31
def rmX9_ice : Room := { frames := 2, cells := 0, slots := 0, locals := 46 }
set_option maxRecDepth 20000 in
theorem kX9_ice_0 : ∀ w ∈ u_ws RX9 TX9 11, w ∈ wsX9_ice := by decide +kernel
set_option maxRecDepth 20000 in
theorem kX9_ice_1 : Cond.fieldLink RX9 10 "StoneRiver" "now" "LStoneRiver$Found;" ∈ wsX9_ice := by decide +kernel
set_option maxHeartbeats 4000000 in
set_option maxRecDepth 100000 in
theorem c_X9_ice (l : Launch) (dC : Nat → ClassId) (dI : Nat → Nat → Nat) (cI cZ : ClassId) (te : Nat → Nat) (h_t : Nat) (h_t_now : Nat) (h_t_beforeRead : Nat) (h_t_firstImage : Nat) (h_t_secondImage : Nat) (h_t_valley : Nat) (h_t_ages : Nat) (h_t_fronts : Nat) (h_t_outburst : Nat) (h_t_text : Nat) (h_t_now_surfaces : Nat) (h_t_now_cliffs : Nat) (h_t_now_boulders : Nat) (h_t_now_scratches : Nat) (h_t_now_numbers : Nat) (h_t_now_facts : Nat) (h_t_now_signs : Nat) (h_t_now_areas : Nat) (h_t_now_heights : Nat) (t_firstKept : Int32) (t_secondKept : Int32) (t_now_ridges : Int32) (t_now_numbers : Nat → Int32) (t_now_heights : Nat → Int32) (p1 : Int32) (p2 : Int32) (o0 : Int32) (hf : f_X9_ice t_now_numbers t_now_heights p1 p2 = some o0) : CM l yX9_ice wsX9_ice rmX9_ice (kS te) dC dI cI cZ [.ref h_t, .int p1, .int p2] [(h_t, .inr (7, fX9 h_t_now h_t_beforeRead h_t_firstImage h_t_secondImage h_t_valley h_t_ages h_t_fronts h_t_outburst h_t_text t_firstKept t_secondKept)), (h_t_now, .inr (1, fX1 h_t_now_surfaces h_t_now_cliffs h_t_now_boulders h_t_now_scratches h_t_now_numbers h_t_now_facts h_t_now_signs h_t_now_areas h_t_now_heights t_now_ridges)), (h_t_now_numbers, .inl (cI, 6, .inl t_now_numbers)), (h_t_now_heights, .inl (cI, 21, .inl t_now_heights))] [(h_t, .inr (7, fX9 h_t_now h_t_beforeRead h_t_firstImage h_t_secondImage h_t_valley h_t_ages h_t_fronts h_t_outburst h_t_text t_firstKept t_secondKept)), (h_t_now, .inr (1, fX1 h_t_now_surfaces h_t_now_cliffs h_t_now_boulders h_t_now_scratches h_t_now_numbers h_t_now_facts h_t_now_signs h_t_now_areas h_t_now_heights t_now_ridges)), (h_t_now_numbers, .inl (cI, 6, .inl t_now_numbers)), (h_t_now_heights, .inl (cI, 21, .inl t_now_heights))] (some (.int o0)) := by
  refine CM_of (cc := cX9_ice) (maxL := 3) (ret := (some .int)) (by decide +kernel) rfl (Nat.le_of_ble_eq_true rfl) ?_
  intro p e s m args below meth c A Q hx hb hr hml hown hts hlocks hA hK hP hD hS hE hQ hAe ls hl
  have hown : s.vm.findClass RX9 = some m.cls := hown
  have hl : lv_has ls 3 [(0, .ref h_t), (1, .int p1), (2, .int p2)] := hl
  unfold f_X9_ice at hf
  refine lv_iload_n hx hb dX9_ice_0 rfl (lv_at hl 1 rfl) ?_
  obtain ⟨r1, hg2, hf⟩ := bd1_some hf
  refine CM_callS (As := [.int p1]) (rest := []) (wc := []) (w1 := []) (wr := [(h_t, .inr (7, fX9 h_t_now h_t_beforeRead h_t_firstImage h_t_secondImage h_t_valley h_t_ages h_t_fronts h_t_outburst h_t_text t_firstKept t_secondKept)), (h_t_now, .inr (1, fX1 h_t_now_surfaces h_t_now_cliffs h_t_now_boulders h_t_now_scratches h_t_now_numbers h_t_now_facts h_t_now_signs h_t_now_areas h_t_now_heights t_now_ridges)), (h_t_now_numbers, .inl (cI, 6, .inl t_now_numbers)), (h_t_now_heights, .inl (cI, 21, .inl t_now_heights))]) (wo := [(h_t, .inr (7, fX9 h_t_now h_t_beforeRead h_t_firstImage h_t_secondImage h_t_valley h_t_ages h_t_fronts h_t_outburst h_t_text t_firstKept t_secondKept)), (h_t_now, .inr (1, fX1 h_t_now_surfaces h_t_now_cliffs h_t_now_boulders h_t_now_scratches h_t_now_numbers h_t_now_facts h_t_now_signs h_t_now_areas h_t_now_heights t_now_ridges)), (h_t_now_numbers, .inl (cI, 6, .inl t_now_numbers)), (h_t_now_heights, .inl (cI, 21, .inl t_now_heights))]) (v := (some (.int r1))) ⟨hx, hb, hml, hown, hts⟩ (c_X9_isWarmth l dC dI cI cZ te p1 r1 hg2) (va_cwS 1 hts gX9_ice_X9_isWarmth rfl rfl rfl (by decide +kernel) ⟨Nat.le_of_ble_eq_true rfl, Nat.le_of_ble_eq_true rfl⟩) (kS_env te) hK hP hD hS hA hE [] [0, 1, 2, 3] [0, 1, 2, 3] rfl rfl (by decide) (by decide) (by decide) (by decide) rfl rfl hl.1 rfl (Nat.le_of_ble_eq_true rfl) dX9_ice_1 ⟨Nat.zero_le _, Nat.zero_le _⟩ (fun H locs hP hD hS => ?_)
  show W p l e rmX9_ice s m args below meth c H locs 0 0 Q (F0 m 4 ls [.int r1])
  refine lv_if_eq (tgt := 26) hx hb dX9_ice_4 (by decide) (fun c3 => ?_) (fun c3 => ?_)
  · replace hf := ifp c3 hf
    refine lv_bipush (v := (-10 : Int32)) hx hb dX9_ice_26 (by decide) ?_
    obtain rfl := inj1 hf
    subst hQ
    exact CM_iret hx hb hr rfl hlocks hAe hP hD hS dX9_ice_28
  · replace hf := ifn c3 hf
    refine lv_iload_n hx hb dX9_ice_7 rfl (lv_at hl 2 rfl) ?_
    obtain ⟨r4, hg5, hf⟩ := bd1_some hf
    refine CM_callS (As := [.int p2]) (rest := []) (wc := []) (w1 := []) (wr := [(h_t, .inr (7, fX9 h_t_now h_t_beforeRead h_t_firstImage h_t_secondImage h_t_valley h_t_ages h_t_fronts h_t_outburst h_t_text t_firstKept t_secondKept)), (h_t_now, .inr (1, fX1 h_t_now_surfaces h_t_now_cliffs h_t_now_boulders h_t_now_scratches h_t_now_numbers h_t_now_facts h_t_now_signs h_t_now_areas h_t_now_heights t_now_ridges)), (h_t_now_numbers, .inl (cI, 6, .inl t_now_numbers)), (h_t_now_heights, .inl (cI, 21, .inl t_now_heights))]) (wo := [(h_t, .inr (7, fX9 h_t_now h_t_beforeRead h_t_firstImage h_t_secondImage h_t_valley h_t_ages h_t_fronts h_t_outburst h_t_text t_firstKept t_secondKept)), (h_t_now, .inr (1, fX1 h_t_now_surfaces h_t_now_cliffs h_t_now_boulders h_t_now_scratches h_t_now_numbers h_t_now_facts h_t_now_signs h_t_now_areas h_t_now_heights t_now_ridges)), (h_t_now_numbers, .inl (cI, 6, .inl t_now_numbers)), (h_t_now_heights, .inl (cI, 21, .inl t_now_heights))]) (v := (some (.int r4))) ⟨hx, hb, hml, hown, hts⟩ (c_X9_isWarmth l dC dI cI cZ te p2 r4 hg5) (va_cwS 1 hts gX9_ice_X9_isWarmth rfl rfl rfl (by decide +kernel) ⟨Nat.le_of_ble_eq_true rfl, Nat.le_of_ble_eq_true rfl⟩) (kS_env te) hK hP hD hS hA hE [] [0, 1, 2, 3] [0, 1, 2, 3] rfl rfl (by decide) (by decide) (by decide) (by decide) rfl rfl hl.1 rfl (Nat.le_of_ble_eq_true rfl) dX9_ice_8 ⟨Nat.zero_le _, Nat.zero_le _⟩ (fun H locs hP hD hS => ?_)
    show W p l e rmX9_ice s m args below meth c H locs 0 0 Q (F0 m 11 ls [.int r4])
    refine lv_if_eq (tgt := 26) hx hb dX9_ice_11 (by decide) (fun c6 => ?_) (fun c6 => ?_)
    · replace hf := ifp c6 hf
      refine lv_bipush (v := (-10 : Int32)) hx hb dX9_ice_26 (by decide) ?_
      obtain rfl := inj1 hf
      subst hQ
      exact CM_iret hx hb hr rfl hlocks hAe hP hD hS dX9_ice_28
    · replace hf := ifn c6 hf
      refine lv_aload_n hx hb dX9_ice_14 rfl (lv_at hl 0 rfl) ?_
      refine va_get (D := (dC, dI)) (ci := 7) (v := .ref h_t_now) (C := RX9) (T := TX9) (N := 11) hx hb hts kX9_ice_0 hown hK hP 0 rfl rfl 0 (by decide) (hts _ kX9_ice_1) (fun _ h9 => h9) rfl dX9_ice_15 ?_
      refine lv_iload_n hx hb dX9_ice_18 rfl (lv_at hl 1 rfl) ?_
      refine lv_iload_n hx hb dX9_ice_19 rfl (lv_at hl 2 rfl) ?_
      obtain ⟨r7, hg8, hf⟩ := bd1_some hf
      refine CM_callS (As := [.ref h_t_now, .int p1, .int p2]) (rest := []) (wc := [(h_t_now, .inr (1, fX1 h_t_now_surfaces h_t_now_cliffs h_t_now_boulders h_t_now_scratches h_t_now_numbers h_t_now_facts h_t_now_signs h_t_now_areas h_t_now_heights t_now_ridges)), (h_t_now_numbers, .inl (cI, 6, .inl t_now_numbers)), (h_t_now_heights, .inl (cI, 21, .inl t_now_heights))]) (w1 := [(h_t_now, .inr (1, fX1 h_t_now_surfaces h_t_now_cliffs h_t_now_boulders h_t_now_scratches h_t_now_numbers h_t_now_facts h_t_now_signs h_t_now_areas h_t_now_heights t_now_ridges)), (h_t_now_numbers, .inl (cI, 6, .inl t_now_numbers)), (h_t_now_heights, .inl (cI, 21, .inl t_now_heights))]) (wr := [(h_t, .inr (7, fX9 h_t_now h_t_beforeRead h_t_firstImage h_t_secondImage h_t_valley h_t_ages h_t_fronts h_t_outburst h_t_text t_firstKept t_secondKept))]) (wo := [(h_t, .inr (7, fX9 h_t_now h_t_beforeRead h_t_firstImage h_t_secondImage h_t_valley h_t_ages h_t_fronts h_t_outburst h_t_text t_firstKept t_secondKept)), (h_t_now, .inr (1, fX1 h_t_now_surfaces h_t_now_cliffs h_t_now_boulders h_t_now_scratches h_t_now_numbers h_t_now_facts h_t_now_signs h_t_now_areas h_t_now_heights t_now_ridges)), (h_t_now_numbers, .inl (cI, 6, .inl t_now_numbers)), (h_t_now_heights, .inl (cI, 21, .inl t_now_heights))]) (v := (some (.int r7))) ⟨hx, hb, hml, hown, hts⟩ (c_X8_standsAt l dC dI cI cZ te h_t_now h_t_now_surfaces h_t_now_cliffs h_t_now_boulders h_t_now_scratches h_t_now_numbers h_t_now_facts h_t_now_signs h_t_now_areas h_t_now_heights t_now_ridges t_now_numbers t_now_heights p1 p2 r7 hg8) (va_cwS 3 hts gX9_ice_X8_standsAt rfl rfl rfl (by decide +kernel) ⟨Nat.le_of_ble_eq_true rfl, Nat.le_of_ble_eq_true rfl⟩) (kS_env te) hK hP hD hS hA hE [1, 2, 3] [0] [0, 1, 2, 3] rfl rfl (by decide) (by decide) (by decide) (by decide) rfl rfl hl.1 rfl (Nat.le_of_ble_eq_true rfl) dX9_ice_20 ⟨Nat.zero_le _, Nat.zero_le _⟩ (fun H locs hP hD hS => ?_)
      show W p l e rmX9_ice s m args below meth c H locs 0 0 Q (F0 m 23 ls [.int r7])
      refine lv_goto (tgt := 28) hx hb dX9_ice_23 (by decide) ?_
      obtain rfl := inj1 hf
      subst hQ
      exact CM_iret hx hb hr rfl hlocks hAe hP hD hS dX9_ice_28
def rmX9_warm : Room := { frames := 3, cells := 0, slots := 0, locals := 69 }
set_option maxRecDepth 20000 in
theorem kX9_warm_0 : ∀ w ∈ u_ws RX9 TX9 11, w ∈ wsX9_warm := by decide +kernel
set_option maxRecDepth 20000 in
theorem kX9_warm_1 : Cond.fieldLink RX9 10 "StoneRiver" "now" "LStoneRiver$Found;" ∈ wsX9_warm := by decide +kernel
set_option maxHeartbeats 4000000 in
set_option maxRecDepth 100000 in
theorem c_X9_warm (l : Launch) (dC : Nat → ClassId) (dI : Nat → Nat → Nat) (cI cZ : ClassId) (te : Nat → Nat) (h_t : Nat) (h_t_now : Nat) (h_t_beforeRead : Nat) (h_t_firstImage : Nat) (h_t_secondImage : Nat) (h_t_valley : Nat) (h_t_ages : Nat) (h_t_fronts : Nat) (h_t_outburst : Nat) (h_t_text : Nat) (h_t_now_surfaces : Nat) (h_t_now_cliffs : Nat) (h_t_now_boulders : Nat) (h_t_now_scratches : Nat) (h_t_now_numbers : Nat) (h_t_now_facts : Nat) (h_t_now_signs : Nat) (h_t_now_areas : Nat) (h_t_now_heights : Nat) (t_firstKept : Int32) (t_secondKept : Int32) (t_now_ridges : Int32) (t_now_numbers : Nat → Int32) (t_now_heights : Nat → Int32) (p1 : Int32) (p2 : Int32) (p3 : Int32) (o0 : Int32) (hf : f_X9_warm t_now_numbers t_now_heights p1 p2 p3 = some o0) : CM l yX9_warm wsX9_warm rmX9_warm (kS te) dC dI cI cZ [.ref h_t, .int p1, .int p2, .int p3] [(h_t, .inr (7, fX9 h_t_now h_t_beforeRead h_t_firstImage h_t_secondImage h_t_valley h_t_ages h_t_fronts h_t_outburst h_t_text t_firstKept t_secondKept)), (h_t_now, .inr (1, fX1 h_t_now_surfaces h_t_now_cliffs h_t_now_boulders h_t_now_scratches h_t_now_numbers h_t_now_facts h_t_now_signs h_t_now_areas h_t_now_heights t_now_ridges)), (h_t_now_numbers, .inl (cI, 6, .inl t_now_numbers)), (h_t_now_heights, .inl (cI, 21, .inl t_now_heights))] [(h_t, .inr (7, fX9 h_t_now h_t_beforeRead h_t_firstImage h_t_secondImage h_t_valley h_t_ages h_t_fronts h_t_outburst h_t_text t_firstKept t_secondKept)), (h_t_now, .inr (1, fX1 h_t_now_surfaces h_t_now_cliffs h_t_now_boulders h_t_now_scratches h_t_now_numbers h_t_now_facts h_t_now_signs h_t_now_areas h_t_now_heights t_now_ridges)), (h_t_now_numbers, .inl (cI, 6, .inl t_now_numbers)), (h_t_now_heights, .inl (cI, 21, .inl t_now_heights))] (some (.int o0)) := by
  refine CM_of (cc := cX9_warm) (maxL := 4) (ret := (some .int)) (by decide +kernel) rfl (Nat.le_of_ble_eq_true rfl) ?_
  intro p e s m args below meth c A Q hx hb hr hml hown hts hlocks hA hK hP hD hS hE hQ hAe ls hl
  have hown : s.vm.findClass RX9 = some m.cls := hown
  have hl : lv_has ls 4 [(0, .ref h_t), (1, .int p1), (2, .int p2), (3, .int p3)] := hl
  unfold f_X9_warm at hf
  refine lv_iload_n hx hb dX9_warm_0 rfl (lv_at hl 1 rfl) ?_
  obtain ⟨r1, hg2, hf⟩ := bd1_some hf
  refine CM_callS (As := [.int p1]) (rest := []) (wc := []) (w1 := []) (wr := [(h_t, .inr (7, fX9 h_t_now h_t_beforeRead h_t_firstImage h_t_secondImage h_t_valley h_t_ages h_t_fronts h_t_outburst h_t_text t_firstKept t_secondKept)), (h_t_now, .inr (1, fX1 h_t_now_surfaces h_t_now_cliffs h_t_now_boulders h_t_now_scratches h_t_now_numbers h_t_now_facts h_t_now_signs h_t_now_areas h_t_now_heights t_now_ridges)), (h_t_now_numbers, .inl (cI, 6, .inl t_now_numbers)), (h_t_now_heights, .inl (cI, 21, .inl t_now_heights))]) (wo := [(h_t, .inr (7, fX9 h_t_now h_t_beforeRead h_t_firstImage h_t_secondImage h_t_valley h_t_ages h_t_fronts h_t_outburst h_t_text t_firstKept t_secondKept)), (h_t_now, .inr (1, fX1 h_t_now_surfaces h_t_now_cliffs h_t_now_boulders h_t_now_scratches h_t_now_numbers h_t_now_facts h_t_now_signs h_t_now_areas h_t_now_heights t_now_ridges)), (h_t_now_numbers, .inl (cI, 6, .inl t_now_numbers)), (h_t_now_heights, .inl (cI, 21, .inl t_now_heights))]) (v := (some (.int r1))) ⟨hx, hb, hml, hown, hts⟩ (c_X9_isZone l dC dI cI cZ te p1 r1 hg2) (va_cwS 1 hts gX9_warm_X9_isZone rfl rfl rfl (by decide +kernel) ⟨Nat.le_of_ble_eq_true rfl, Nat.le_of_ble_eq_true rfl⟩) (kS_env te) hK hP hD hS hA hE [] [0, 1, 2, 3] [0, 1, 2, 3] rfl rfl (by decide) (by decide) (by decide) (by decide) rfl rfl hl.1 rfl (Nat.le_of_ble_eq_true rfl) dX9_warm_1 ⟨Nat.zero_le _, Nat.zero_le _⟩ (fun H locs hP hD hS => ?_)
  show W p l e rmX9_warm s m args below meth c H locs 0 0 Q (F0 m 4 ls [.int r1])
  refine lv_if_eq (tgt := 23) hx hb dX9_warm_4 (by decide) (fun c3 => ?_) (fun c3 => ?_)
  · replace hf := ifp c3 hf
    refine lv_bipush (v := (-2 : Int32)) hx hb dX9_warm_23 (by decide) ?_
    obtain rfl := inj1 hf
    subst hQ
    exact CM_iret hx hb hr rfl hlocks hAe hP hD hS dX9_warm_25
  · replace hf := ifn c3 hf
    refine lv_iload_n hx hb dX9_warm_7 rfl (lv_at hl 2 rfl) ?_
    obtain ⟨r4, hg5, hf⟩ := bd1_some hf
    refine CM_callS (As := [.int p2]) (rest := []) (wc := []) (w1 := []) (wr := [(h_t, .inr (7, fX9 h_t_now h_t_beforeRead h_t_firstImage h_t_secondImage h_t_valley h_t_ages h_t_fronts h_t_outburst h_t_text t_firstKept t_secondKept)), (h_t_now, .inr (1, fX1 h_t_now_surfaces h_t_now_cliffs h_t_now_boulders h_t_now_scratches h_t_now_numbers h_t_now_facts h_t_now_signs h_t_now_areas h_t_now_heights t_now_ridges)), (h_t_now_numbers, .inl (cI, 6, .inl t_now_numbers)), (h_t_now_heights, .inl (cI, 21, .inl t_now_heights))]) (wo := [(h_t, .inr (7, fX9 h_t_now h_t_beforeRead h_t_firstImage h_t_secondImage h_t_valley h_t_ages h_t_fronts h_t_outburst h_t_text t_firstKept t_secondKept)), (h_t_now, .inr (1, fX1 h_t_now_surfaces h_t_now_cliffs h_t_now_boulders h_t_now_scratches h_t_now_numbers h_t_now_facts h_t_now_signs h_t_now_areas h_t_now_heights t_now_ridges)), (h_t_now_numbers, .inl (cI, 6, .inl t_now_numbers)), (h_t_now_heights, .inl (cI, 21, .inl t_now_heights))]) (v := (some (.int r4))) ⟨hx, hb, hml, hown, hts⟩ (c_X9_isWarmth l dC dI cI cZ te p2 r4 hg5) (va_cwS 1 hts gX9_warm_X9_isWarmth rfl rfl rfl (by decide +kernel) ⟨Nat.le_of_ble_eq_true rfl, Nat.le_of_ble_eq_true rfl⟩) (kS_env te) hK hP hD hS hA hE [] [0, 1, 2, 3] [0, 1, 2, 3] rfl rfl (by decide) (by decide) (by decide) (by decide) rfl rfl hl.1 rfl (Nat.le_of_ble_eq_true rfl) dX9_warm_8 ⟨Nat.zero_le _, Nat.zero_le _⟩ (fun H locs hP hD hS => ?_)
    show W p l e rmX9_warm s m args below meth c H locs 0 0 Q (F0 m 11 ls [.int r4])
    refine lv_if_eq (tgt := 23) hx hb dX9_warm_11 (by decide) (fun c6 => ?_) (fun c6 => ?_)
    · replace hf := ifp c6 hf
      refine lv_bipush (v := (-2 : Int32)) hx hb dX9_warm_23 (by decide) ?_
      obtain rfl := inj1 hf
      subst hQ
      exact CM_iret hx hb hr rfl hlocks hAe hP hD hS dX9_warm_25
    · replace hf := ifn c6 hf
      refine lv_iload_n hx hb dX9_warm_14 rfl (lv_at hl 3 rfl) ?_
      refine lv_iconst (v := (0 : Int32)) hx hb dX9_warm_15 (by decide) ?_
      refine lv_iconst (v := (1 : Int32)) hx hb dX9_warm_16 (by decide) ?_
      obtain ⟨r7, hg8, hf⟩ := bd1_some hf
      refine CM_callS (As := [.int p3, .int (0 : Int32), .int (1 : Int32)]) (rest := []) (wc := []) (w1 := []) (wr := [(h_t, .inr (7, fX9 h_t_now h_t_beforeRead h_t_firstImage h_t_secondImage h_t_valley h_t_ages h_t_fronts h_t_outburst h_t_text t_firstKept t_secondKept)), (h_t_now, .inr (1, fX1 h_t_now_surfaces h_t_now_cliffs h_t_now_boulders h_t_now_scratches h_t_now_numbers h_t_now_facts h_t_now_signs h_t_now_areas h_t_now_heights t_now_ridges)), (h_t_now_numbers, .inl (cI, 6, .inl t_now_numbers)), (h_t_now_heights, .inl (cI, 21, .inl t_now_heights))]) (wo := [(h_t, .inr (7, fX9 h_t_now h_t_beforeRead h_t_firstImage h_t_secondImage h_t_valley h_t_ages h_t_fronts h_t_outburst h_t_text t_firstKept t_secondKept)), (h_t_now, .inr (1, fX1 h_t_now_surfaces h_t_now_cliffs h_t_now_boulders h_t_now_scratches h_t_now_numbers h_t_now_facts h_t_now_signs h_t_now_areas h_t_now_heights t_now_ridges)), (h_t_now_numbers, .inl (cI, 6, .inl t_now_numbers)), (h_t_now_heights, .inl (cI, 21, .inl t_now_heights))]) (v := (some (.int r7))) ⟨hx, hb, hml, hown, hts⟩ (c_X9_within l dC dI cI cZ te p3 (0 : Int32) (1 : Int32) r7 hg8) (va_cwS 3 hts gX9_warm_X9_within rfl rfl rfl (by decide +kernel) ⟨Nat.le_of_ble_eq_true rfl, Nat.le_of_ble_eq_true rfl⟩) (kS_env te) hK hP hD hS hA hE [] [0, 1, 2, 3] [0, 1, 2, 3] rfl rfl (by decide) (by decide) (by decide) (by decide) rfl rfl hl.1 rfl (Nat.le_of_ble_eq_true rfl) dX9_warm_17 ⟨Nat.zero_le _, Nat.zero_le _⟩ (fun H locs hP hD hS => ?_)
      show W p l e rmX9_warm s m args below meth c H locs 0 0 Q (F0 m 20 ls [.int r7])
      refine lv_if_ne (tgt := 26) hx hb dX9_warm_20 (by decide) (fun c9 => ?_) (fun c9 => ?_)
      · replace hf := ifn c9 hf
        refine lv_iload_n hx hb dX9_warm_26 rfl (lv_at hl 3 rfl) ?_
        refine lv_if_ne (tgt := 42) hx hb dX9_warm_27 (by decide) (fun c10 => ?_) (fun c10 => ?_)
        · replace hf := ifn c10 hf
          refine lv_aload_n hx hb dX9_warm_42 rfl (lv_at hl 0 rfl) ?_
          refine va_get (D := (dC, dI)) (ci := 7) (v := .ref h_t_now) (C := RX9) (T := TX9) (N := 11) hx hb hts kX9_warm_0 hown hK hP 0 rfl rfl 0 (by decide) (hts _ kX9_warm_1) (fun _ h9 => h9) rfl dX9_warm_43 ?_
          refine lv_iload_n hx hb dX9_warm_46 rfl (lv_at hl 1 rfl) ?_
          refine lv_iload_n hx hb dX9_warm_47 rfl (lv_at hl 2 rfl) ?_
          obtain ⟨r11, hg12, hf⟩ := bd1_some hf
          refine CM_callS (As := [.ref h_t_now, .int p1, .int p2]) (rest := []) (wc := [(h_t_now, .inr (1, fX1 h_t_now_surfaces h_t_now_cliffs h_t_now_boulders h_t_now_scratches h_t_now_numbers h_t_now_facts h_t_now_signs h_t_now_areas h_t_now_heights t_now_ridges)), (h_t_now_numbers, .inl (cI, 6, .inl t_now_numbers)), (h_t_now_heights, .inl (cI, 21, .inl t_now_heights))]) (w1 := [(h_t_now, .inr (1, fX1 h_t_now_surfaces h_t_now_cliffs h_t_now_boulders h_t_now_scratches h_t_now_numbers h_t_now_facts h_t_now_signs h_t_now_areas h_t_now_heights t_now_ridges)), (h_t_now_numbers, .inl (cI, 6, .inl t_now_numbers)), (h_t_now_heights, .inl (cI, 21, .inl t_now_heights))]) (wr := [(h_t, .inr (7, fX9 h_t_now h_t_beforeRead h_t_firstImage h_t_secondImage h_t_valley h_t_ages h_t_fronts h_t_outburst h_t_text t_firstKept t_secondKept))]) (wo := [(h_t, .inr (7, fX9 h_t_now h_t_beforeRead h_t_firstImage h_t_secondImage h_t_valley h_t_ages h_t_fronts h_t_outburst h_t_text t_firstKept t_secondKept)), (h_t_now, .inr (1, fX1 h_t_now_surfaces h_t_now_cliffs h_t_now_boulders h_t_now_scratches h_t_now_numbers h_t_now_facts h_t_now_signs h_t_now_areas h_t_now_heights t_now_ridges)), (h_t_now_numbers, .inl (cI, 6, .inl t_now_numbers)), (h_t_now_heights, .inl (cI, 21, .inl t_now_heights))]) (v := (some (.int r11))) ⟨hx, hb, hml, hown, hts⟩ (c_X8_greatestFor l dC dI cI cZ te h_t_now h_t_now_surfaces h_t_now_cliffs h_t_now_boulders h_t_now_scratches h_t_now_numbers h_t_now_facts h_t_now_signs h_t_now_areas h_t_now_heights t_now_ridges t_now_numbers t_now_heights p1 p2 r11 hg12) (va_cwS 3 hts gX9_warm_X8_greatestFor rfl rfl rfl (by decide +kernel) ⟨Nat.le_of_ble_eq_true rfl, Nat.le_of_ble_eq_true rfl⟩) (kS_env te) hK hP hD hS hA hE [1, 2, 3] [0] [0, 1, 2, 3] rfl rfl (by decide) (by decide) (by decide) (by decide) rfl rfl hl.1 rfl (Nat.le_of_ble_eq_true rfl) dX9_warm_48 ⟨Nat.zero_le _, Nat.zero_le _⟩ (fun H locs hP hD hS => ?_)
          show W p l e rmX9_warm s m args below meth c H locs 0 0 Q (F0 m 51 ls [.int r11])
          obtain rfl := inj1 hf
          subst hQ
          exact CM_iret hx hb hr rfl hlocks hAe hP hD hS dX9_warm_51
        · replace hf := ifp c10 hf
          refine lv_aload_n hx hb dX9_warm_30 rfl (lv_at hl 0 rfl) ?_
          refine va_get (D := (dC, dI)) (ci := 7) (v := .ref h_t_now) (C := RX9) (T := TX9) (N := 11) hx hb hts kX9_warm_0 hown hK hP 0 rfl rfl 0 (by decide) (hts _ kX9_warm_1) (fun _ h9 => h9) rfl dX9_warm_31 ?_
          refine lv_iload_n hx hb dX9_warm_34 rfl (lv_at hl 1 rfl) ?_
          refine lv_iload_n hx hb dX9_warm_35 rfl (lv_at hl 2 rfl) ?_
          obtain ⟨r13, hg14, hf⟩ := bd1_some hf
          refine CM_callS (As := [.ref h_t_now, .int p1, .int p2]) (rest := []) (wc := [(h_t_now, .inr (1, fX1 h_t_now_surfaces h_t_now_cliffs h_t_now_boulders h_t_now_scratches h_t_now_numbers h_t_now_facts h_t_now_signs h_t_now_areas h_t_now_heights t_now_ridges)), (h_t_now_numbers, .inl (cI, 6, .inl t_now_numbers)), (h_t_now_heights, .inl (cI, 21, .inl t_now_heights))]) (w1 := [(h_t_now, .inr (1, fX1 h_t_now_surfaces h_t_now_cliffs h_t_now_boulders h_t_now_scratches h_t_now_numbers h_t_now_facts h_t_now_signs h_t_now_areas h_t_now_heights t_now_ridges)), (h_t_now_numbers, .inl (cI, 6, .inl t_now_numbers)), (h_t_now_heights, .inl (cI, 21, .inl t_now_heights))]) (wr := [(h_t, .inr (7, fX9 h_t_now h_t_beforeRead h_t_firstImage h_t_secondImage h_t_valley h_t_ages h_t_fronts h_t_outburst h_t_text t_firstKept t_secondKept))]) (wo := [(h_t, .inr (7, fX9 h_t_now h_t_beforeRead h_t_firstImage h_t_secondImage h_t_valley h_t_ages h_t_fronts h_t_outburst h_t_text t_firstKept t_secondKept)), (h_t_now, .inr (1, fX1 h_t_now_surfaces h_t_now_cliffs h_t_now_boulders h_t_now_scratches h_t_now_numbers h_t_now_facts h_t_now_signs h_t_now_areas h_t_now_heights t_now_ridges)), (h_t_now_numbers, .inl (cI, 6, .inl t_now_numbers)), (h_t_now_heights, .inl (cI, 21, .inl t_now_heights))]) (v := (some (.int r13))) ⟨hx, hb, hml, hown, hts⟩ (c_X8_leastFor l dC dI cI cZ te h_t_now h_t_now_surfaces h_t_now_cliffs h_t_now_boulders h_t_now_scratches h_t_now_numbers h_t_now_facts h_t_now_signs h_t_now_areas h_t_now_heights t_now_ridges t_now_numbers t_now_heights p1 p2 r13 hg14) (va_cwS 3 hts gX9_warm_X8_leastFor rfl rfl rfl (by decide +kernel) ⟨Nat.le_of_ble_eq_true rfl, Nat.le_of_ble_eq_true rfl⟩) (kS_env te) hK hP hD hS hA hE [1, 2, 3] [0] [0, 1, 2, 3] rfl rfl (by decide) (by decide) (by decide) (by decide) rfl rfl hl.1 rfl (Nat.le_of_ble_eq_true rfl) dX9_warm_36 ⟨Nat.zero_le _, Nat.zero_le _⟩ (fun H locs hP hD hS => ?_)
          show W p l e rmX9_warm s m args below meth c H locs 0 0 Q (F0 m 39 ls [.int r13])
          refine lv_goto (tgt := 51) hx hb dX9_warm_39 (by decide) ?_
          obtain rfl := inj1 hf
          subst hQ
          exact CM_iret hx hb hr rfl hlocks hAe hP hD hS dX9_warm_51
      · replace hf := ifp c9 hf
        refine lv_bipush (v := (-2 : Int32)) hx hb dX9_warm_23 (by decide) ?_
        obtain rfl := inj1 hf
        subst hQ
        exact CM_iret hx hb hr rfl hlocks hAe hP hD hS dX9_warm_25
def rmX9_type : Room := { frames := 1, cells := 0, slots := 0, locals := 24 }
set_option maxRecDepth 20000 in
theorem kX9_type_0 : ∀ w ∈ u_ws RX9 TX9 11, w ∈ wsX9_type := by decide +kernel
set_option maxRecDepth 20000 in
theorem kX9_type_1 : Cond.fieldLink RX9 56 "StoneRiver" "text" "LStoneRiver$Text;" ∈ wsX9_type := by decide +kernel
set_option maxHeartbeats 4000000 in
set_option maxRecDepth 100000 in
theorem c_X9_type (l : Launch) (dC : Nat → ClassId) (dI : Nat → Nat → Nat) (cI cZ : ClassId) (te : Nat → Nat) (h_t : Nat) (h_t_now : Nat) (h_t_beforeRead : Nat) (h_t_firstImage : Nat) (h_t_secondImage : Nat) (h_t_valley : Nat) (h_t_ages : Nat) (h_t_fronts : Nat) (h_t_outburst : Nat) (h_t_text : Nat) (h_t_text_bytes : Nat) (h_t_text_numbers : Nat) (t_firstKept : Int32) (t_secondKept : Int32) (t_text_size : Int32) (t_text_start : Int32) (t_text_value : Int32) (t_text_next : Int32) (t_text_word : Int32) (t_text_bytes : Nat → Int32) (p1 : Int64) (p2 : Int32) (o0 : Int32) (o1 : Int32) (o2 : Nat → Int32) (hf : f_X9_type t_text_size t_text_bytes p1 p2 = some (o0, o1, o2)) : CM l yX9_type wsX9_type rmX9_type (kS te) dC dI cI cZ [.ref h_t, .long p1, .int p2] [(h_t, .inr (7, fX9 h_t_now h_t_beforeRead h_t_firstImage h_t_secondImage h_t_valley h_t_ages h_t_fronts h_t_outburst h_t_text t_firstKept t_secondKept)), (h_t_text, .inr (5, fX6 h_t_text_bytes t_text_size t_text_start t_text_value t_text_next t_text_word h_t_text_numbers)), (h_t_text_bytes, .inl (cI, 240, .inl t_text_bytes))] [(h_t, .inr (7, fX9 h_t_now h_t_beforeRead h_t_firstImage h_t_secondImage h_t_valley h_t_ages h_t_fronts h_t_outburst h_t_text t_firstKept t_secondKept)), (h_t_text, .inr (5, fX6 h_t_text_bytes o1 t_text_start t_text_value t_text_next t_text_word h_t_text_numbers)), (h_t_text_bytes, .inl (cI, 240, .inl o2))] (some (.int o0)) := by
  refine CM_of (cc := cX9_type) (maxL := 4) (ret := (some .int)) (by decide +kernel) rfl (Nat.le_of_ble_eq_true rfl) ?_
  intro p e s m args below meth c A Q hx hb hr hml hown hts hlocks hA hK hP hD hS hE hQ hAe ls hl
  have hown : s.vm.findClass RX9 = some m.cls := hown
  have hl : lv_has ls 4 [(0, .ref h_t), (1, .long p1), (3, .int p2)] := hl
  unfold f_X9_type at hf
  refine lv_iload_n hx hb dX9_type_0 rfl (lv_at hl 2 rfl) ?_
  refine lv_iconst (v := (1 : Int32)) hx hb dX9_type_1 (by decide) ?_
  refine lv_bipush (v := (8 : Int32)) hx hb dX9_type_2 (by decide) ?_
  obtain ⟨r1, hg2, hf⟩ := bd1_some hf
  refine CM_callS (As := [.int p2, .int (1 : Int32), .int (8 : Int32)]) (rest := []) (wc := []) (w1 := []) (wr := [(h_t, .inr (7, fX9 h_t_now h_t_beforeRead h_t_firstImage h_t_secondImage h_t_valley h_t_ages h_t_fronts h_t_outburst h_t_text t_firstKept t_secondKept)), (h_t_text, .inr (5, fX6 h_t_text_bytes t_text_size t_text_start t_text_value t_text_next t_text_word h_t_text_numbers)), (h_t_text_bytes, .inl (cI, 240, .inl t_text_bytes))]) (wo := [(h_t, .inr (7, fX9 h_t_now h_t_beforeRead h_t_firstImage h_t_secondImage h_t_valley h_t_ages h_t_fronts h_t_outburst h_t_text t_firstKept t_secondKept)), (h_t_text, .inr (5, fX6 h_t_text_bytes t_text_size t_text_start t_text_value t_text_next t_text_word h_t_text_numbers)), (h_t_text_bytes, .inl (cI, 240, .inl t_text_bytes))]) (v := (some (.int r1))) ⟨hx, hb, hml, hown, hts⟩ (c_X9_within l dC dI cI cZ te p2 (1 : Int32) (8 : Int32) r1 hg2) (va_cwS 3 hts gX9_type_X9_within rfl rfl rfl (by decide +kernel) ⟨Nat.le_of_ble_eq_true rfl, Nat.le_of_ble_eq_true rfl⟩) (kS_env te) hK hP hD hS hA hE [] [0, 1, 2] [0, 1, 2] rfl rfl (by decide) (by decide) (by decide) (by decide) rfl rfl hl.1 rfl (Nat.le_of_ble_eq_true rfl) dX9_type_4 ⟨Nat.zero_le _, Nat.zero_le _⟩ (fun H locs hP hD hS => ?_)
  show W p l e rmX9_type s m args below meth c H locs 0 0 Q (F0 m 7 ls [.int r1])
  refine lv_if_eq (tgt := 22) hx hb dX9_type_7 (by decide) (fun c3 => ?_) (fun c3 => ?_)
  · replace hf := ifp c3 hf
    refine lv_bipush (v := (-2 : Int32)) hx hb dX9_type_22 (by decide) ?_
    obtain ⟨rfl, rfl, rfl⟩ := inj3 hf
    subst hQ
    exact CM_iret hx hb hr rfl hlocks hAe hP hD hS dX9_type_24
  · replace hf := ifn c3 hf
    refine lv_aload_n hx hb dX9_type_10 rfl (lv_at hl 0 rfl) ?_
    refine va_get (D := (dC, dI)) (ci := 7) (v := .ref h_t_text) (C := RX9) (T := TX9) (N := 11) hx hb hts kX9_type_0 hown hK hP 0 rfl rfl 8 (by decide) (hts _ kX9_type_1) (fun _ h9 => h9) rfl dX9_type_11 ?_
    refine lv_lload_n hx hb dX9_type_14 rfl (lv_at hl 1 rfl) ?_
    refine lv_iload_n hx hb dX9_type_15 rfl (lv_at hl 2 rfl) ?_
    obtain ⟨r4, x5, y6, hg7, hf⟩ := bd3_some hf
    refine CM_callV (C := RX6) (As := [.long p1, .int p2]) (rest := []) (wc := [(h_t_text, .inr (5, fX6 h_t_text_bytes t_text_size t_text_start t_text_value t_text_next t_text_word h_t_text_numbers)), (h_t_text_bytes, .inl (cI, 240, .inl t_text_bytes))]) (w1 := [(h_t_text, .inr (5, fX6 h_t_text_bytes x5 t_text_start t_text_value t_text_next t_text_word h_t_text_numbers)), (h_t_text_bytes, .inl (cI, 240, .inl y6))]) (wr := [(h_t, .inr (7, fX9 h_t_now h_t_beforeRead h_t_firstImage h_t_secondImage h_t_valley h_t_ages h_t_fronts h_t_outburst h_t_text t_firstKept t_secondKept))]) (wo := [(h_t, .inr (7, fX9 h_t_now h_t_beforeRead h_t_firstImage h_t_secondImage h_t_valley h_t_ages h_t_fronts h_t_outburst h_t_text t_firstKept t_secondKept)), (h_t_text, .inr (5, fX6 h_t_text_bytes x5 t_text_start t_text_value t_text_next t_text_word h_t_text_numbers)), (h_t_text_bytes, .inl (cI, 240, .inl y6))]) (v := (some (.int r4))) ⟨hx, hb, hml, hown, hts⟩ (c_X6_append l dC dI cI cZ te h_t_text h_t_text_bytes h_t_text_numbers t_text_size t_text_start t_text_value t_text_next t_text_word t_text_bytes p1 p2 r4 x5 y6 hg7) (cwV 2 hts gX9_type_X6_append rfl rfl rfl (by decide +kernel) ⟨Nat.le_of_ble_eq_true rfl, Nat.le_of_ble_eq_true rfl⟩) (kS_env te) hK hP hD hS hA hE [1, 2] [0] [0, 1, 2] rfl rfl (by decide) (by decide) (by decide) (by decide) rfl 1 5 rfl rfl rfl rfl hl.1 rfl (Nat.le_of_ble_eq_true rfl) dX9_type_16 ⟨Nat.zero_le _, Nat.zero_le _⟩ (fun H locs hP hD hS => ?_)
    show W p l e rmX9_type s m args below meth c H locs 0 0 Q (F0 m 19 ls [.int r4])
    refine lv_goto (tgt := 24) hx hb dX9_type_19 (by decide) ?_
    obtain ⟨rfl, rfl, rfl⟩ := inj3 hf
    subst hQ
    exact CM_iret hx hb hr rfl hlocks hAe hP hD hS dX9_type_24
