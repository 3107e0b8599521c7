def rmX10_tellsItem : Room := { frames := 4, cells := 0, slots := 0, locals := 97 }
abbrev wqX10_tellsItem : List Cond := Cond.code yX10_tellsItem cX10_tellsItem 6 (some .int) :: tG
set_option maxHeartbeats 4000000 in
set_option maxRecDepth 100000 in
theorem c_X10_tellsItem (l : Launch) (dC : Nat → ClassId) (dI : Nat → Nat → Nat) (cI cZ : ClassId) (te : Nat → Nat) (h_t : Nat) (h_t_book : Nat) (h_t_images : Nat) (h_t_kept : Nat) (h_t_aside : Nat) (h_t_far : Nat) (h_t_then : Nat) (h_t_row : Nat) (h_t_mays : Nat) (h_t_firstRow : Nat) (h_t_low : Nat) (h_t_high : Nat) (h_t_lowOne : Nat) (h_t_highOne : Nat) (h_t_ways : Nat) (h_t_left : Nat) (h_t_text : Nat) (h_t_verbs : Nat) (h_t_nums : Nat) (t_noOlder : Int32) (t_thanThis : Int32) (t_known : Int32) (t_knownAge : Int32) (t_moved : Int32) (t_met : Int32) (t_hours : Int32) (t_greatest : Int32) (t_typed : Int32) (t_at : Int32) (t_start : Int32) (t_token : Int32) (t_value : Int32) (t_items : Int32) (t_nums : Nat → Int32) (t_verbs : Nat → Int32) (t_book : Nat → Int32) (p1 : Int32) (o0 : Int32) (o1 : Nat → Int32) (hf : f_X10_tellsItem t_nums t_verbs t_book p1 = some (o0, o1)) : CM l yX10_tellsItem wqX10_tellsItem rmX10_tellsItem (kS te) dC dI cI cZ [.ref h_t, .int p1] [(h_t, .inr (8, fX10 h_t_book h_t_images h_t_kept h_t_aside h_t_far h_t_then h_t_row h_t_mays h_t_firstRow h_t_low h_t_high t_noOlder t_thanThis t_known t_knownAge t_moved h_t_lowOne h_t_highOne h_t_ways t_met h_t_left t_hours t_greatest h_t_text t_typed t_at t_start t_token t_value h_t_verbs h_t_nums t_items)), (h_t_nums, .inl (cI, 960, .inl t_nums)), (h_t_verbs, .inl (cI, 240, .inl t_verbs)), (h_t_book, .inl (cI, 460, .inl t_book))] [(h_t, .inr (8, fX10 h_t_book h_t_images h_t_kept h_t_aside h_t_far h_t_then h_t_row h_t_mays h_t_firstRow h_t_low h_t_high t_noOlder t_thanThis t_known t_knownAge t_moved h_t_lowOne h_t_highOne h_t_ways t_met h_t_left t_hours t_greatest h_t_text t_typed t_at t_start t_token t_value h_t_verbs h_t_nums t_items)), (h_t_nums, .inl (cI, 960, .inl t_nums)), (h_t_verbs, .inl (cI, 240, .inl t_verbs)), (h_t_book, .inl (cI, 460, .inl o1))] (some (.int o0)) := by
  refine CM_of (cc := cX10_tellsItem) (maxL := 6) (ret := (some .int)) (by decide +kernel) rfl (Nat.le_of_ble_eq_true rfl) ?_
  intro p e s m args below meth c A Q hx hb hr hml hown hts hlocks hA hK hP hD hS hE hQ hAe ls hl
  have hown : s.vm.findClass RX10 = some m.cls := hown
  have hl : lv_has ls 6 [(0, .ref h_t), (1, .int p1)] := hl
  unfold f_X10_tellsItem at hf
  refine lv_aload_n hx hb dX10_tellsItem_0 rfl (lv_at hl 0 rfl) ?_
  refine va_get (D := (dC, dI)) (ci := 8) (v := .ref h_t_nums) (C := RX10) (T := TX10) (N := 32) hx hb hts (in1 tw_X10) hown hK hP 0 rfl rfl 30 (by decide) (hts _ (List.mem_cons_of_mem _ kw_134)) (fun _ h9 => h9) rfl dX10_tellsItem_1 ?_
  refine lv_iconst (v := (4 : Int32)) hx hb dX10_tellsItem_4 (by decide) ?_
  refine lv_iload_n hx hb dX10_tellsItem_5 rfl (lv_at hl 1 rfl) ?_
  refine lv_imul hx hb dX10_tellsItem_6 ?_
  obtain ⟨g1, hf⟩ := chk_some hf
  refine va_iald hx hb hK hP 1 0 rfl rfl (gin_in g1) dX10_tellsItem_7 ?_
  obtain ⟨x2, e3, hf⟩ := nm_some hf
  refine lv_tope e3 ?_
  refine lv_istore_n (lv' := [(2, .int x2), (0, .ref h_t), (1, .int p1)]) hx hb dX10_tellsItem_8 rfl hl (by decide) rfl (fun ls hl => ?_)
  refine lv_aload_n hx hb dX10_tellsItem_9 rfl (lv_at hl 1 rfl) ?_
  refine va_get (D := (dC, dI)) (ci := 8) (v := .ref h_t_nums) (C := RX10) (T := TX10) (N := 32) hx hb hts (in1 tw_X10) hown hK hP 0 rfl rfl 30 (by decide) (hts _ (List.mem_cons_of_mem _ kw_134)) (fun _ h9 => h9) rfl dX10_tellsItem_10 ?_
  refine lv_iconst (v := (4 : Int32)) hx hb dX10_tellsItem_13 (by decide) ?_
  refine lv_iload_n hx hb dX10_tellsItem_14 rfl (lv_at hl 2 rfl) ?_
  refine lv_imul hx hb dX10_tellsItem_15 ?_
  refine lv_iconst (v := (1 : Int32)) hx hb dX10_tellsItem_16 (by decide) ?_
  refine lv_iadd hx hb dX10_tellsItem_17 ?_
  obtain ⟨g4, hf⟩ := chk_some hf
  refine va_iald hx hb hK hP 1 0 rfl rfl (gin_in g4) dX10_tellsItem_18 ?_
  obtain ⟨x5, e6, hf⟩ := nm_some hf
  refine lv_tope e6 ?_
  refine lv_istore_n (lv' := [(3, .int x5), (2, .int x2), (0, .ref h_t), (1, .int p1)]) hx hb dX10_tellsItem_19 rfl hl (by decide) rfl (fun ls hl => ?_)
  refine lv_aload_n hx hb dX10_tellsItem_20 rfl (lv_at hl 2 rfl) ?_
  refine va_get (D := (dC, dI)) (ci := 8) (v := .ref h_t_nums) (C := RX10) (T := TX10) (N := 32) hx hb hts (in1 tw_X10) hown hK hP 0 rfl rfl 30 (by decide) (hts _ (List.mem_cons_of_mem _ kw_134)) (fun _ h9 => h9) rfl dX10_tellsItem_21 ?_
  refine lv_iconst (v := (4 : Int32)) hx hb dX10_tellsItem_24 (by decide) ?_
  refine lv_iload_n hx hb dX10_tellsItem_25 rfl (lv_at hl 3 rfl) ?_
  refine lv_imul hx hb dX10_tellsItem_26 ?_
  refine lv_iconst (v := (2 : Int32)) hx hb dX10_tellsItem_27 (by decide) ?_
  refine lv_iadd hx hb dX10_tellsItem_28 ?_
  obtain ⟨g7, hf⟩ := chk_some hf
  refine va_iald hx hb hK hP 1 0 rfl rfl (gin_in g7) dX10_tellsItem_29 ?_
  obtain ⟨x8, e9, hf⟩ := nm_some hf
  refine lv_tope e9 ?_
  refine lv_istore (lv' := [(4, .int x8), (3, .int x5), (2, .int x2), (0, .ref h_t), (1, .int p1)]) hx hb dX10_tellsItem_30 hl (by decide) rfl (fun ls hl => ?_)
  refine lv_aload_n hx hb dX10_tellsItem_32 rfl (lv_at hl 3 rfl) ?_
  refine va_get (D := (dC, dI)) (ci := 8) (v := .ref h_t_verbs) (C := RX10) (T := TX10) (N := 32) hx hb hts (in1 tw_X10) hown hK hP 0 rfl rfl 29 (by decide) (hts _ (List.mem_cons_of_mem _ kw_133)) (fun _ h9 => h9) rfl dX10_tellsItem_33 ?_
  refine lv_iload_n hx hb dX10_tellsItem_36 rfl (lv_at hl 4 rfl) ?_
  obtain ⟨g10, hf⟩ := chk_some hf
  refine va_iald hx hb hK hP 2 0 rfl rfl (gin_in g10) dX10_tellsItem_37 ?_
  obtain ⟨x11, e12, hf⟩ := nm_some hf
  refine lv_tope e12 ?_
  refine lv_istore (lv' := [(5, .int x11), (4, .int x8), (3, .int x5), (2, .int x2), (0, .ref h_t), (1, .int p1)]) hx hb dX10_tellsItem_38 hl (by decide) rfl (fun ls hl => ?_)
  refine lv_iload hx hb dX10_tellsItem_40 (lv_at hl 0 rfl) ?_
  by_cases c13 : x11 = (10 : Int32)
  · replace hf := ifp c13 hf
    refine lv_tableIn (tgt := 104) hx hb dX10_tellsItem_42 (by rw [c13]; decide) (by rw [c13]; decide) (by rw [c13]; rfl) (by decide) ?_
    refine lv_aload_n hx hb dX10_tellsItem_104 rfl (lv_at hl 4 rfl) ?_
    refine lv_iload_n hx hb dX10_tellsItem_105 rfl (lv_at hl 3 rfl) ?_
    refine lv_iload_n hx hb dX10_tellsItem_106 rfl (lv_at hl 2 rfl) ?_
    obtain ⟨r14, y15, hg16, hf⟩ := bd2_some hf
    refine CM_callV (C := RX10) (As := [.int x2, .int x5]) (rest := []) (wc := [(h_t, .inr (8, fX10 h_t_book h_t_images h_t_kept h_t_aside h_t_far h_t_then h_t_row h_t_mays h_t_firstRow h_t_low h_t_high t_noOlder t_thanThis t_known t_knownAge t_moved h_t_lowOne h_t_highOne h_t_ways t_met h_t_left t_hours t_greatest h_t_text t_typed t_at t_start t_token t_value h_t_verbs h_t_nums t_items)), (h_t_book, .inl (cI, 460, .inl t_book))]) (w1 := [(h_t, .inr (8, fX10 h_t_book h_t_images h_t_kept h_t_aside h_t_far h_t_then h_t_row h_t_mays h_t_firstRow h_t_low h_t_high t_noOlder t_thanThis t_known t_knownAge t_moved h_t_lowOne h_t_highOne h_t_ways t_met h_t_left t_hours t_greatest h_t_text t_typed t_at t_start t_token t_value h_t_verbs h_t_nums t_items)), (h_t_book, .inl (cI, 460, .inl y15))]) (wr := [(h_t_nums, .inl (cI, 960, .inl t_nums)), (h_t_verbs, .inl (cI, 240, .inl t_verbs))]) (wo := [(h_t, .inr (8, fX10 h_t_book h_t_images h_t_kept h_t_aside h_t_far h_t_then h_t_row h_t_mays h_t_firstRow h_t_low h_t_high t_noOlder t_thanThis t_known t_knownAge t_moved h_t_lowOne h_t_highOne h_t_ways t_met h_t_left t_hours t_greatest h_t_text t_typed t_at t_start t_token t_value h_t_verbs h_t_nums t_items)), (h_t_nums, .inl (cI, 960, .inl t_nums)), (h_t_verbs, .inl (cI, 240, .inl t_verbs)), (h_t_book, .inl (cI, 460, .inl y15))]) (v := (some (.int r14))) ⟨hx, hb, hml, hown, hts⟩ (c_X10_cliff l dC dI cI cZ te h_t h_t_book h_t_images h_t_kept h_t_aside h_t_far h_t_then h_t_row h_t_mays h_t_firstRow h_t_low h_t_high h_t_lowOne h_t_highOne h_t_ways h_t_left h_t_text h_t_verbs h_t_nums t_noOlder t_thanThis t_known t_knownAge t_moved t_met t_hours t_greatest t_typed t_at t_start t_token t_value t_items t_book x2 x5 r14 y15 hg16) (cwV 2 hts (gV kw_362 kw_363 kw_364 kw_159 kw_365) rfl rfl rfl (by decide +kernel) ⟨Nat.le_of_ble_eq_true rfl, Nat.le_of_ble_eq_true rfl⟩) (kS_env te) hK hP hD hS hA hE [0, 3] [1, 2] [2, 0, 1, 3] rfl rfl (by decide) (by decide) (by decide) (by decide) rfl 0 8 rfl rfl rfl rfl hl.1 rfl (Nat.le_of_ble_eq_true rfl) dX10_tellsItem_107 ⟨Nat.zero_le _, Nat.zero_le _⟩ (fun H locs hP hD hS => ?_)
    show W p l e rmX10_tellsItem s m args below meth c H locs 0 0 Q (F0 m 110 ls [.int r14])
    obtain ⟨rfl, rfl⟩ := inj2 hf
    subst hQ
    exact CM_iret hx hb hr rfl hlocks hAe hP hD hS dX10_tellsItem_110
  · replace hf := ifn c13 hf
    by_cases c17 : x11 = (11 : Int32)
    · replace hf := ifp c17 hf
      refine lv_tableIn (tgt := 111) hx hb dX10_tellsItem_42 (by rw [c17]; decide) (by rw [c17]; decide) (by rw [c17]; rfl) (by decide) ?_
      refine lv_aload_n hx hb dX10_tellsItem_111 rfl (lv_at hl 4 rfl) ?_
      refine lv_iload_n hx hb dX10_tellsItem_112 rfl (lv_at hl 3 rfl) ?_
      refine lv_iload_n hx hb dX10_tellsItem_113 rfl (lv_at hl 2 rfl) ?_
      obtain ⟨r18, y19, hg20, hf⟩ := bd2_some hf
      refine CM_callV (C := RX10) (As := [.int x2, .int x5]) (rest := []) (wc := [(h_t, .inr (8, fX10 h_t_book h_t_images h_t_kept h_t_aside h_t_far h_t_then h_t_row h_t_mays h_t_firstRow h_t_low h_t_high t_noOlder t_thanThis t_known t_knownAge t_moved h_t_lowOne h_t_highOne h_t_ways t_met h_t_left t_hours t_greatest h_t_text t_typed t_at t_start t_token t_value h_t_verbs h_t_nums t_items)), (h_t_book, .inl (cI, 460, .inl t_book))]) (w1 := [(h_t, .inr (8, fX10 h_t_book h_t_images h_t_kept h_t_aside h_t_far h_t_then h_t_row h_t_mays h_t_firstRow h_t_low h_t_high t_noOlder t_thanThis t_known t_knownAge t_moved h_t_lowOne h_t_highOne h_t_ways t_met h_t_left t_hours t_greatest h_t_text t_typed t_at t_start t_token t_value h_t_verbs h_t_nums t_items)), (h_t_book, .inl (cI, 460, .inl y19))]) (wr := [(h_t_nums, .inl (cI, 960, .inl t_nums)), (h_t_verbs, .inl (cI, 240, .inl t_verbs))]) (wo := [(h_t, .inr (8, fX10 h_t_book h_t_images h_t_kept h_t_aside h_t_far h_t_then h_t_row h_t_mays h_t_firstRow h_t_low h_t_high t_noOlder t_thanThis t_known t_knownAge t_moved h_t_lowOne h_t_highOne h_t_ways t_met h_t_left t_hours t_greatest h_t_text t_typed t_at t_start t_token t_value h_t_verbs h_t_nums t_items)), (h_t_nums, .inl (cI, 960, .inl t_nums)), (h_t_verbs, .inl (cI, 240, .inl t_verbs)), (h_t_book, .inl (cI, 460, .inl y19))]) (v := (some (.int r18))) ⟨hx, hb, hml, hown, hts⟩ (c_X10_boulder l dC dI cI cZ te h_t h_t_book h_t_images h_t_kept h_t_aside h_t_far h_t_then h_t_row h_t_mays h_t_firstRow h_t_low h_t_high h_t_lowOne h_t_highOne h_t_ways h_t_left h_t_text h_t_verbs h_t_nums t_noOlder t_thanThis t_known t_knownAge t_moved t_met t_hours t_greatest t_typed t_at t_start t_token t_value t_items t_book x2 x5 r18 y19 hg20) (cwV 2 hts (gV kw_366 kw_367 kw_368 kw_159 kw_369) rfl rfl rfl (by decide +kernel) ⟨Nat.le_of_ble_eq_true rfl, Nat.le_of_ble_eq_true rfl⟩) (kS_env te) hK hP hD hS hA hE [0, 3] [1, 2] [2, 0, 1, 3] rfl rfl (by decide) (by decide) (by decide) (by decide) rfl 0 8 rfl rfl rfl rfl hl.1 rfl (Nat.le_of_ble_eq_true rfl) dX10_tellsItem_114 ⟨Nat.zero_le _, Nat.zero_le _⟩ (fun H locs hP hD hS => ?_)
      show W p l e rmX10_tellsItem s m args below meth c H locs 0 0 Q (F0 m 117 ls [.int r18])
      obtain ⟨rfl, rfl⟩ := inj2 hf
      subst hQ
      exact CM_iret hx hb hr rfl hlocks hAe hP hD hS dX10_tellsItem_117
    · replace hf := ifn c17 hf
      by_cases c21 : x11 = (12 : Int32)
      · replace hf := ifp c21 hf
        refine lv_tableIn (tgt := 118) hx hb dX10_tellsItem_42 (by rw [c21]; decide) (by rw [c21]; decide) (by rw [c21]; rfl) (by decide) ?_
        refine lv_aload_n hx hb dX10_tellsItem_118 rfl (lv_at hl 4 rfl) ?_
        refine lv_iload_n hx hb dX10_tellsItem_119 rfl (lv_at hl 3 rfl) ?_
        refine lv_iload_n hx hb dX10_tellsItem_120 rfl (lv_at hl 2 rfl) ?_
        obtain ⟨r22, y23, hg24, hf⟩ := bd2_some hf
        refine CM_callV (C := RX10) (As := [.int x2, .int x5]) (rest := []) (wc := [(h_t, .inr (8, fX10 h_t_book h_t_images h_t_kept h_t_aside h_t_far h_t_then h_t_row h_t_mays h_t_firstRow h_t_low h_t_high t_noOlder t_thanThis t_known t_knownAge t_moved h_t_lowOne h_t_highOne h_t_ways t_met h_t_left t_hours t_greatest h_t_text t_typed t_at t_start t_token t_value h_t_verbs h_t_nums t_items)), (h_t_book, .inl (cI, 460, .inl t_book))]) (w1 := [(h_t, .inr (8, fX10 h_t_book h_t_images h_t_kept h_t_aside h_t_far h_t_then h_t_row h_t_mays h_t_firstRow h_t_low h_t_high t_noOlder t_thanThis t_known t_knownAge t_moved h_t_lowOne h_t_highOne h_t_ways t_met h_t_left t_hours t_greatest h_t_text t_typed t_at t_start t_token t_value h_t_verbs h_t_nums t_items)), (h_t_book, .inl (cI, 460, .inl y23))]) (wr := [(h_t_nums, .inl (cI, 960, .inl t_nums)), (h_t_verbs, .inl (cI, 240, .inl t_verbs))]) (wo := [(h_t, .inr (8, fX10 h_t_book h_t_images h_t_kept h_t_aside h_t_far h_t_then h_t_row h_t_mays h_t_firstRow h_t_low h_t_high t_noOlder t_thanThis t_known t_knownAge t_moved h_t_lowOne h_t_highOne h_t_ways t_met h_t_left t_hours t_greatest h_t_text t_typed t_at t_start t_token t_value h_t_verbs h_t_nums t_items)), (h_t_nums, .inl (cI, 960, .inl t_nums)), (h_t_verbs, .inl (cI, 240, .inl t_verbs)), (h_t_book, .inl (cI, 460, .inl y23))]) (v := (some (.int r22))) ⟨hx, hb, hml, hown, hts⟩ (c_X10_scratch l dC dI cI cZ te h_t h_t_book h_t_images h_t_kept h_t_aside h_t_far h_t_then h_t_row h_t_mays h_t_firstRow h_t_low h_t_high h_t_lowOne h_t_highOne h_t_ways h_t_left h_t_text h_t_verbs h_t_nums t_noOlder t_thanThis t_known t_knownAge t_moved t_met t_hours t_greatest t_typed t_at t_start t_token t_value t_items t_book x2 x5 r22 y23 hg24) (cwV 2 hts (gV kw_370 kw_371 kw_372 kw_159 kw_373) rfl rfl rfl (by decide +kernel) ⟨Nat.le_of_ble_eq_true rfl, Nat.le_of_ble_eq_true rfl⟩) (kS_env te) hK hP hD hS hA hE [0, 3] [1, 2] [2, 0, 1, 3] rfl rfl (by decide) (by decide) (by decide) (by decide) rfl 0 8 rfl rfl rfl rfl hl.1 rfl (Nat.le_of_ble_eq_true rfl) dX10_tellsItem_121 ⟨Nat.zero_le _, Nat.zero_le _⟩ (fun H locs hP hD hS => ?_)
        show W p l e rmX10_tellsItem s m args below meth c H locs 0 0 Q (F0 m 124 ls [.int r22])
        obtain ⟨rfl, rfl⟩ := inj2 hf
        subst hQ
        exact CM_iret hx hb hr rfl hlocks hAe hP hD hS dX10_tellsItem_124
      · replace hf := ifn c21 hf
        by_cases c25 : x11 = (13 : Int32)
        · replace hf := ifp c25 hf
          refine lv_tableIn (tgt := 125) hx hb dX10_tellsItem_42 (by rw [c25]; decide) (by rw [c25]; decide) (by rw [c25]; rfl) (by decide) ?_
          refine lv_aload_n hx hb dX10_tellsItem_125 rfl (lv_at hl 4 rfl) ?_
          obtain ⟨r26, y27, hg28, hf⟩ := bd2_some hf
          refine CM_callV (C := RX10) (As := []) (rest := []) (wc := [(h_t, .inr (8, fX10 h_t_book h_t_images h_t_kept h_t_aside h_t_far h_t_then h_t_row h_t_mays h_t_firstRow h_t_low h_t_high t_noOlder t_thanThis t_known t_knownAge t_moved h_t_lowOne h_t_highOne h_t_ways t_met h_t_left t_hours t_greatest h_t_text t_typed t_at t_start t_token t_value h_t_verbs h_t_nums t_items)), (h_t_book, .inl (cI, 460, .inl t_book))]) (w1 := [(h_t, .inr (8, fX10 h_t_book h_t_images h_t_kept h_t_aside h_t_far h_t_then h_t_row h_t_mays h_t_firstRow h_t_low h_t_high t_noOlder t_thanThis t_known t_knownAge t_moved h_t_lowOne h_t_highOne h_t_ways t_met h_t_left t_hours t_greatest h_t_text t_typed t_at t_start t_token t_value h_t_verbs h_t_nums t_items)), (h_t_book, .inl (cI, 460, .inl y27))]) (wr := [(h_t_nums, .inl (cI, 960, .inl t_nums)), (h_t_verbs, .inl (cI, 240, .inl t_verbs))]) (wo := [(h_t, .inr (8, fX10 h_t_book h_t_images h_t_kept h_t_aside h_t_far h_t_then h_t_row h_t_mays h_t_firstRow h_t_low h_t_high t_noOlder t_thanThis t_known t_knownAge t_moved h_t_lowOne h_t_highOne h_t_ways t_met h_t_left t_hours t_greatest h_t_text t_typed t_at t_start t_token t_value h_t_verbs h_t_nums t_items)), (h_t_nums, .inl (cI, 960, .inl t_nums)), (h_t_verbs, .inl (cI, 240, .inl t_verbs)), (h_t_book, .inl (cI, 460, .inl y27))]) (v := (some (.int r26))) ⟨hx, hb, hml, hown, hts⟩ (c_X10_ridge l dC dI cI cZ te h_t h_t_book h_t_images h_t_kept h_t_aside h_t_far h_t_then h_t_row h_t_mays h_t_firstRow h_t_low h_t_high h_t_lowOne h_t_highOne h_t_ways h_t_left h_t_text h_t_verbs h_t_nums t_noOlder t_thanThis t_known t_knownAge t_moved t_met t_hours t_greatest t_typed t_at t_start t_token t_value t_items t_book r26 y27 hg28) (cwV 0 hts (gV kw_374 kw_375 kw_376 kw_159 kw_377) rfl rfl rfl (by decide +kernel) ⟨Nat.le_of_ble_eq_true rfl, Nat.le_of_ble_eq_true rfl⟩) (kS_env te) hK hP hD hS hA hE [0, 3] [1, 2] [2, 0, 1, 3] rfl rfl (by decide) (by decide) (by decide) (by decide) rfl 0 8 rfl rfl rfl rfl hl.1 rfl (Nat.le_of_ble_eq_true rfl) dX10_tellsItem_126 ⟨Nat.zero_le _, Nat.zero_le _⟩ (fun H locs hP hD hS => ?_)
          show W p l e rmX10_tellsItem s m args below meth c H locs 0 0 Q (F0 m 129 ls [.int r26])
          obtain ⟨rfl, rfl⟩ := inj2 hf
          subst hQ
          exact CM_iret hx hb hr rfl hlocks hAe hP hD hS dX10_tellsItem_129
        · replace hf := ifn c25 hf
          by_cases c29 : x11 = (14 : Int32)
          · replace hf := ifp c29 hf
            refine lv_tableIn (tgt := 144) hx hb dX10_tellsItem_42 (by rw [c29]; decide) (by rw [c29]; decide) (by rw [c29]; rfl) (by decide) ?_
            refine lv_aload_n hx hb dX10_tellsItem_144 rfl (lv_at hl 4 rfl) ?_
            refine lv_iload_n hx hb dX10_tellsItem_145 rfl (lv_at hl 3 rfl) ?_
            refine lv_iload hx hb dX10_tellsItem_146 (lv_at hl 0 rfl) ?_
            refine lv_bipush (v := (14 : Int32)) hx hb dX10_tellsItem_148 (by decide) ?_
            refine lv_isub hx hb dX10_tellsItem_150 ?_
            refine lv_iload_n hx hb dX10_tellsItem_151 rfl (lv_at hl 2 rfl) ?_
            refine lv_iload hx hb dX10_tellsItem_152 (lv_at hl 1 rfl) ?_
            refine lv_iload hx hb dX10_tellsItem_154 (lv_at hl 0 rfl) ?_
            refine lv_bipush (v := (15 : Int32)) hx hb dX10_tellsItem_156 (by decide) ?_
            obtain ⟨x30, hg, hf⟩ := bd1_some hf
            have J31 : ∀ (H : Heap) (locs : List Loc), va_P (dC, dI) vwCl [(h_t, .inr (8, fX10 h_t_book h_t_images h_t_kept h_t_aside h_t_far h_t_then h_t_row h_t_mays h_t_firstRow h_t_low h_t_high t_noOlder t_thanThis t_known t_knownAge t_moved h_t_lowOne h_t_highOne h_t_ways t_met h_t_left t_hours t_greatest h_t_text t_typed t_at t_start t_token t_value h_t_verbs h_t_nums t_items)), (h_t_nums, .inl (cI, 960, .inl t_nums)), (h_t_verbs, .inl (cI, 240, .inl t_verbs)), (h_t_book, .inl (cI, 460, .inl t_book))] H → va_D A [(h_t, .inr (8, fX10 h_t_book h_t_images h_t_kept h_t_aside h_t_far h_t_then h_t_row h_t_mays h_t_firstRow h_t_low h_t_high t_noOlder t_thanThis t_known t_knownAge t_moved h_t_lowOne h_t_highOne h_t_ways t_met h_t_left t_hours t_greatest h_t_text t_typed t_at t_start t_token t_value h_t_verbs h_t_nums t_items)), (h_t_nums, .inl (cI, 960, .inl t_nums)), (h_t_verbs, .inl (cI, 240, .inl t_verbs)), (h_t_book, .inl (cI, 460, .inl t_book))] → va_S A s.heap H locs → ∀ ls : Array Slot, lv_has ls 6 [] → W p l e rmX10_tellsItem s m args below meth c H locs 0 0 Q (F0 m 175 ls [.int x30, .int x8, .int x5, .int (x11 - (14 : Int32)), .int x2, .ref h_t]) := by
              intro H locs hP hD hS ls hl
              obtain ⟨r32, y33, hg34, hf⟩ := bd2_some hf
              refine CM_callV (C := RX10) (As := [.int x2, .int (x11 - (14 : Int32)), .int x5, .int x8, .int x30]) (rest := []) (wc := [(h_t, .inr (8, fX10 h_t_book h_t_images h_t_kept h_t_aside h_t_far h_t_then h_t_row h_t_mays h_t_firstRow h_t_low h_t_high t_noOlder t_thanThis t_known t_knownAge t_moved h_t_lowOne h_t_highOne h_t_ways t_met h_t_left t_hours t_greatest h_t_text t_typed t_at t_start t_token t_value h_t_verbs h_t_nums t_items)), (h_t_book, .inl (cI, 460, .inl t_book))]) (w1 := [(h_t, .inr (8, fX10 h_t_book h_t_images h_t_kept h_t_aside h_t_far h_t_then h_t_row h_t_mays h_t_firstRow h_t_low h_t_high t_noOlder t_thanThis t_known t_knownAge t_moved h_t_lowOne h_t_highOne h_t_ways t_met h_t_left t_hours t_greatest h_t_text t_typed t_at t_start t_token t_value h_t_verbs h_t_nums t_items)), (h_t_book, .inl (cI, 460, .inl y33))]) (wr := [(h_t_nums, .inl (cI, 960, .inl t_nums)), (h_t_verbs, .inl (cI, 240, .inl t_verbs))]) (wo := [(h_t, .inr (8, fX10 h_t_book h_t_images h_t_kept h_t_aside h_t_far h_t_then h_t_row h_t_mays h_t_firstRow h_t_low h_t_high t_noOlder t_thanThis t_known t_knownAge t_moved h_t_lowOne h_t_highOne h_t_ways t_met h_t_left t_hours t_greatest h_t_text t_typed t_at t_start t_token t_value h_t_verbs h_t_nums t_items)), (h_t_nums, .inl (cI, 960, .inl t_nums)), (h_t_verbs, .inl (cI, 240, .inl t_verbs)), (h_t_book, .inl (cI, 460, .inl y33))]) (v := (some (.int r32))) ⟨hx, hb, hml, hown, hts⟩ (c_X10_fact l dC dI cI cZ te h_t h_t_book h_t_images h_t_kept h_t_aside h_t_far h_t_then h_t_row h_t_mays h_t_firstRow h_t_low h_t_high h_t_lowOne h_t_highOne h_t_ways h_t_left h_t_text h_t_verbs h_t_nums t_noOlder t_thanThis t_known t_knownAge t_moved t_met t_hours t_greatest t_typed t_at t_start t_token t_value t_items t_book x2 (x11 - (14 : Int32)) x5 x8 x30 r32 y33 hg34) (cwV 5 hts (gV kw_378 kw_379 kw_380 kw_159 kw_381) rfl rfl rfl (by decide +kernel) ⟨Nat.le_of_ble_eq_true rfl, Nat.le_of_ble_eq_true rfl⟩) (kS_env te) hK hP hD hS hA hE [0, 3] [1, 2] [2, 0, 1, 3] rfl rfl (by decide) (by decide) (by decide) (by decide) rfl 0 8 rfl rfl rfl rfl hl.1 rfl (Nat.le_of_ble_eq_true rfl) dX10_tellsItem_175 ⟨Nat.zero_le _, Nat.zero_le _⟩ (fun H locs hP hD hS => ?_)
              show W p l e rmX10_tellsItem s m args below meth c H locs 0 0 Q (F0 m 178 ls [.int r32])
              obtain ⟨rfl, rfl⟩ := inj2 hf
              subst hQ
              exact CM_iret hx hb hr rfl hlocks hAe hP hD hS dX10_tellsItem_178
            clear hf
            have hf := hg
            refine lv_icmp_ne (tgt := 174) hx hb dX10_tellsItem_158 (by decide) (fun c35 => ?_) (fun c35 => ?_)
            · replace hf := ifn c35 hf
              refine lv_iconst (v := (0 : Int32)) hx hb dX10_tellsItem_174 (by decide) ?_
              obtain rfl := inj1 hf
              exact J31 _ _ hP hD hS _ (lv_sub hl [] rfl)
            · replace hf := ifp c35 hf
              refine lv_aload_n hx hb dX10_tellsItem_161 rfl (lv_at hl 4 rfl) ?_
              refine va_get (D := (dC, dI)) (ci := 8) (v := .ref h_t_nums) (C := RX10) (T := TX10) (N := 32) hx hb hts (in1 tw_X10) hown hK hP 0 rfl rfl 30 (by decide) (hts _ (List.mem_cons_of_mem _ kw_134)) (fun _ h9 => h9) rfl dX10_tellsItem_162 ?_
              refine lv_iconst (v := (4 : Int32)) hx hb dX10_tellsItem_165 (by decide) ?_
              refine lv_iload_n hx hb dX10_tellsItem_166 rfl (lv_at hl 5 rfl) ?_
              refine lv_imul hx hb dX10_tellsItem_167 ?_
              refine lv_iconst (v := (3 : Int32)) hx hb dX10_tellsItem_168 (by decide) ?_
              refine lv_iadd hx hb dX10_tellsItem_169 ?_
              obtain ⟨g36, hf⟩ := chk_some hf
              refine va_iald hx hb hK hP 1 0 rfl rfl (gin_in g36) dX10_tellsItem_170 ?_
              refine lv_goto (tgt := 175) hx hb dX10_tellsItem_171 (by decide) ?_
              obtain rfl := inj1 hf
              exact J31 _ _ hP hD hS _ (lv_sub hl [] rfl)
          · replace hf := ifn c29 hf
            by_cases c37 : x11 = (15 : Int32)
            · replace hf := ifp c37 hf
              refine lv_tableIn (tgt := 144) hx hb dX10_tellsItem_42 (by rw [c37]; decide) (by rw [c37]; decide) (by rw [c37]; rfl) (by decide) ?_
              refine lv_aload_n hx hb dX10_tellsItem_144 rfl (lv_at hl 4 rfl) ?_
              refine lv_iload_n hx hb dX10_tellsItem_145 rfl (lv_at hl 3 rfl) ?_
              refine lv_iload hx hb dX10_tellsItem_146 (lv_at hl 0 rfl) ?_
              refine lv_bipush (v := (14 : Int32)) hx hb dX10_tellsItem_148 (by decide) ?_
              refine lv_isub hx hb dX10_tellsItem_150 ?_
              refine lv_iload_n hx hb dX10_tellsItem_151 rfl (lv_at hl 2 rfl) ?_
              refine lv_iload hx hb dX10_tellsItem_152 (lv_at hl 1 rfl) ?_
              refine lv_iload hx hb dX10_tellsItem_154 (lv_at hl 0 rfl) ?_
              refine lv_bipush (v := (15 : Int32)) hx hb dX10_tellsItem_156 (by decide) ?_
              obtain ⟨x38, hg, hf⟩ := bd1_some hf
              have J39 : ∀ (H : Heap) (locs : List Loc), va_P (dC, dI) vwCl [(h_t, .inr (8, fX10 h_t_book h_t_images h_t_kept h_t_aside h_t_far h_t_then h_t_row h_t_mays h_t_firstRow h_t_low h_t_high t_noOlder t_thanThis t_known t_knownAge t_moved h_t_lowOne h_t_highOne h_t_ways t_met h_t_left t_hours t_greatest h_t_text t_typed t_at t_start t_token t_value h_t_verbs h_t_nums t_items)), (h_t_nums, .inl (cI, 960, .inl t_nums)), (h_t_verbs, .inl (cI, 240, .inl t_verbs)), (h_t_book, .inl (cI, 460, .inl t_book))] H → va_D A [(h_t, .inr (8, fX10 h_t_book h_t_images h_t_kept h_t_aside h_t_far h_t_then h_t_row h_t_mays h_t_firstRow h_t_low h_t_high t_noOlder t_thanThis t_known t_knownAge t_moved h_t_lowOne h_t_highOne h_t_ways t_met h_t_left t_hours t_greatest h_t_text t_typed t_at t_start t_token t_value h_t_verbs h_t_nums t_items)), (h_t_nums, .inl (cI, 960, .inl t_nums)), (h_t_verbs, .inl (cI, 240, .inl t_verbs)), (h_t_book, .inl (cI, 460, .inl t_book))] → va_S A s.heap H locs → ∀ ls : Array Slot, lv_has ls 6 [] → W p l e rmX10_tellsItem s m args below meth c H locs 0 0 Q (F0 m 175 ls [.int x38, .int x8, .int x5, .int (x11 - (14 : Int32)), .int x2, .ref h_t]) := by
                intro H locs hP hD hS ls hl
                obtain ⟨r40, y41, hg42, hf⟩ := bd2_some hf
                refine CM_callV (C := RX10) (As := [.int x2, .int (x11 - (14 : Int32)), .int x5, .int x8, .int x38]) (rest := []) (wc := [(h_t, .inr (8, fX10 h_t_book h_t_images h_t_kept h_t_aside h_t_far h_t_then h_t_row h_t_mays h_t_firstRow h_t_low h_t_high t_noOlder t_thanThis t_known t_knownAge t_moved h_t_lowOne h_t_highOne h_t_ways t_met h_t_left t_hours t_greatest h_t_text t_typed t_at t_start t_token t_value h_t_verbs h_t_nums t_items)), (h_t_book, .inl (cI, 460, .inl t_book))]) (w1 := [(h_t, .inr (8, fX10 h_t_book h_t_images h_t_kept h_t_aside h_t_far h_t_then h_t_row h_t_mays h_t_firstRow h_t_low h_t_high t_noOlder t_thanThis t_known t_knownAge t_moved h_t_lowOne h_t_highOne h_t_ways t_met h_t_left t_hours t_greatest h_t_text t_typed t_at t_start t_token t_value h_t_verbs h_t_nums t_items)), (h_t_book, .inl (cI, 460, .inl y41))]) (wr := [(h_t_nums, .inl (cI, 960, .inl t_nums)), (h_t_verbs, .inl (cI, 240, .inl t_verbs))]) (wo := [(h_t, .inr (8, fX10 h_t_book h_t_images h_t_kept h_t_aside h_t_far h_t_then h_t_row h_t_mays h_t_firstRow h_t_low h_t_high t_noOlder t_thanThis t_known t_knownAge t_moved h_t_lowOne h_t_highOne h_t_ways t_met h_t_left t_hours t_greatest h_t_text t_typed t_at t_start t_token t_value h_t_verbs h_t_nums t_items)), (h_t_nums, .inl (cI, 960, .inl t_nums)), (h_t_verbs, .inl (cI, 240, .inl t_verbs)), (h_t_book, .inl (cI, 460, .inl y41))]) (v := (some (.int r40))) ⟨hx, hb, hml, hown, hts⟩ (c_X10_fact l dC dI cI cZ te h_t h_t_book h_t_images h_t_kept h_t_aside h_t_far h_t_then h_t_row h_t_mays h_t_firstRow h_t_low h_t_high h_t_lowOne h_t_highOne h_t_ways h_t_left h_t_text h_t_verbs h_t_nums t_noOlder t_thanThis t_known t_knownAge t_moved t_met t_hours t_greatest t_typed t_at t_start t_token t_value t_items t_book x2 (x11 - (14 : Int32)) x5 x8 x38 r40 y41 hg42) (cwV 5 hts (gV kw_378 kw_379 kw_380 kw_159 kw_381) rfl rfl rfl (by decide +kernel) ⟨Nat.le_of_ble_eq_true rfl, Nat.le_of_ble_eq_true rfl⟩) (kS_env te) hK hP hD hS hA hE [0, 3] [1, 2] [2, 0, 1, 3] rfl rfl (by decide) (by decide) (by decide) (by decide) rfl 0 8 rfl rfl rfl rfl hl.1 rfl (Nat.le_of_ble_eq_true rfl) dX10_tellsItem_175 ⟨Nat.zero_le _, Nat.zero_le _⟩ (fun H locs hP hD hS => ?_)
                show W p l e rmX10_tellsItem s m args below meth c H locs 0 0 Q (F0 m 178 ls [.int r40])
                obtain ⟨rfl, rfl⟩ := inj2 hf
                subst hQ
                exact CM_iret hx hb hr rfl hlocks hAe hP hD hS dX10_tellsItem_178
              clear hf
              have hf := hg
              refine lv_icmp_ne (tgt := 174) hx hb dX10_tellsItem_158 (by decide) (fun c43 => ?_) (fun c43 => ?_)
              · replace hf := ifn c43 hf
                refine lv_iconst (v := (0 : Int32)) hx hb dX10_tellsItem_174 (by decide) ?_
                obtain rfl := inj1 hf
                exact J39 _ _ hP hD hS _ (lv_sub hl [] rfl)
              · replace hf := ifp c43 hf
                refine lv_aload_n hx hb dX10_tellsItem_161 rfl (lv_at hl 4 rfl) ?_
                refine va_get (D := (dC, dI)) (ci := 8) (v := .ref h_t_nums) (C := RX10) (T := TX10) (N := 32) hx hb hts (in1 tw_X10) hown hK hP 0 rfl rfl 30 (by decide) (hts _ (List.mem_cons_of_mem _ kw_134)) (fun _ h9 => h9) rfl dX10_tellsItem_162 ?_
                refine lv_iconst (v := (4 : Int32)) hx hb dX10_tellsItem_165 (by decide) ?_
                refine lv_iload_n hx hb dX10_tellsItem_166 rfl (lv_at hl 5 rfl) ?_
                refine lv_imul hx hb dX10_tellsItem_167 ?_
                refine lv_iconst (v := (3 : Int32)) hx hb dX10_tellsItem_168 (by decide) ?_
                refine lv_iadd hx hb dX10_tellsItem_169 ?_
                obtain ⟨g44, hf⟩ := chk_some hf
                refine va_iald hx hb hK hP 1 0 rfl rfl (gin_in g44) dX10_tellsItem_170 ?_
                refine lv_goto (tgt := 175) hx hb dX10_tellsItem_171 (by decide) ?_
                obtain rfl := inj1 hf
                exact J39 _ _ hP hD hS _ (lv_sub hl [] rfl)
            · replace hf := ifn c37 hf
              by_cases c45 : x11 = (16 : Int32)
              · replace hf := ifp c45 hf
                refine lv_tableIn (tgt := 144) hx hb dX10_tellsItem_42 (by rw [c45]; decide) (by rw [c45]; decide) (by rw [c45]; rfl) (by decide) ?_
                refine lv_aload_n hx hb dX10_tellsItem_144 rfl (lv_at hl 4 rfl) ?_
                refine lv_iload_n hx hb dX10_tellsItem_145 rfl (lv_at hl 3 rfl) ?_
                refine lv_iload hx hb dX10_tellsItem_146 (lv_at hl 0 rfl) ?_
                refine lv_bipush (v := (14 : Int32)) hx hb dX10_tellsItem_148 (by decide) ?_
                refine lv_isub hx hb dX10_tellsItem_150 ?_
                refine lv_iload_n hx hb dX10_tellsItem_151 rfl (lv_at hl 2 rfl) ?_
                refine lv_iload hx hb dX10_tellsItem_152 (lv_at hl 1 rfl) ?_
                refine lv_iload hx hb dX10_tellsItem_154 (lv_at hl 0 rfl) ?_
                refine lv_bipush (v := (15 : Int32)) hx hb dX10_tellsItem_156 (by decide) ?_
                obtain ⟨x46, hg, hf⟩ := bd1_some hf
                have J47 : ∀ (H : Heap) (locs : List Loc), va_P (dC, dI) vwCl [(h_t, .inr (8, fX10 h_t_book h_t_images h_t_kept h_t_aside h_t_far h_t_then h_t_row h_t_mays h_t_firstRow h_t_low h_t_high t_noOlder t_thanThis t_known t_knownAge t_moved h_t_lowOne h_t_highOne h_t_ways t_met h_t_left t_hours t_greatest h_t_text t_typed t_at t_start t_token t_value h_t_verbs h_t_nums t_items)), (h_t_nums, .inl (cI, 960, .inl t_nums)), (h_t_verbs, .inl (cI, 240, .inl t_verbs)), (h_t_book, .inl (cI, 460, .inl t_book))] H → va_D A [(h_t, .inr (8, fX10 h_t_book h_t_images h_t_kept h_t_aside h_t_far h_t_then h_t_row h_t_mays h_t_firstRow h_t_low h_t_high t_noOlder t_thanThis t_known t_knownAge t_moved h_t_lowOne h_t_highOne h_t_ways t_met h_t_left t_hours t_greatest h_t_text t_typed t_at t_start t_token t_value h_t_verbs h_t_nums t_items)), (h_t_nums, .inl (cI, 960, .inl t_nums)), (h_t_verbs, .inl (cI, 240, .inl t_verbs)), (h_t_book, .inl (cI, 460, .inl t_book))] → va_S A s.heap H locs → ∀ ls : Array Slot, lv_has ls 6 [] → W p l e rmX10_tellsItem s m args below meth c H locs 0 0 Q (F0 m 175 ls [.int x46, .int x8, .int x5, .int (x11 - (14 : Int32)), .int x2, .ref h_t]) := by
                  intro H locs hP hD hS ls hl
                  obtain ⟨r48, y49, hg50, hf⟩ := bd2_some hf
                  refine CM_callV (C := RX10) (As := [.int x2, .int (x11 - (14 : Int32)), .int x5, .int x8, .int x46]) (rest := []) (wc := [(h_t, .inr (8, fX10 h_t_book h_t_images h_t_kept h_t_aside h_t_far h_t_then h_t_row h_t_mays h_t_firstRow h_t_low h_t_high t_noOlder t_thanThis t_known t_knownAge t_moved h_t_lowOne h_t_highOne h_t_ways t_met h_t_left t_hours t_greatest h_t_text t_typed t_at t_start t_token t_value h_t_verbs h_t_nums t_items)), (h_t_book, .inl (cI, 460, .inl t_book))]) (w1 := [(h_t, .inr (8, fX10 h_t_book h_t_images h_t_kept h_t_aside h_t_far h_t_then h_t_row h_t_mays h_t_firstRow h_t_low h_t_high t_noOlder t_thanThis t_known t_knownAge t_moved h_t_lowOne h_t_highOne h_t_ways t_met h_t_left t_hours t_greatest h_t_text t_typed t_at t_start t_token t_value h_t_verbs h_t_nums t_items)), (h_t_book, .inl (cI, 460, .inl y49))]) (wr := [(h_t_nums, .inl (cI, 960, .inl t_nums)), (h_t_verbs, .inl (cI, 240, .inl t_verbs))]) (wo := [(h_t, .inr (8, fX10 h_t_book h_t_images h_t_kept h_t_aside h_t_far h_t_then h_t_row h_t_mays h_t_firstRow h_t_low h_t_high t_noOlder t_thanThis t_known t_knownAge t_moved h_t_lowOne h_t_highOne h_t_ways t_met h_t_left t_hours t_greatest h_t_text t_typed t_at t_start t_token t_value h_t_verbs h_t_nums t_items)), (h_t_nums, .inl (cI, 960, .inl t_nums)), (h_t_verbs, .inl (cI, 240, .inl t_verbs)), (h_t_book, .inl (cI, 460, .inl y49))]) (v := (some (.int r48))) ⟨hx, hb, hml, hown, hts⟩ (c_X10_fact l dC dI cI cZ te h_t h_t_book h_t_images h_t_kept h_t_aside h_t_far h_t_then h_t_row h_t_mays h_t_firstRow h_t_low h_t_high h_t_lowOne h_t_highOne h_t_ways h_t_left h_t_text h_t_verbs h_t_nums t_noOlder t_thanThis t_known t_knownAge t_moved t_met t_hours t_greatest t_typed t_at t_start t_token t_value t_items t_book x2 (x11 - (14 : Int32)) x5 x8 x46 r48 y49 hg50) (cwV 5 hts (gV kw_378 kw_379 kw_380 kw_159 kw_381) rfl rfl rfl (by decide +kernel) ⟨Nat.le_of_ble_eq_true rfl, Nat.le_of_ble_eq_true rfl⟩) (kS_env te) hK hP hD hS hA hE [0, 3] [1, 2] [2, 0, 1, 3] rfl rfl (by decide) (by decide) (by decide) (by decide) rfl 0 8 rfl rfl rfl rfl hl.1 rfl (Nat.le_of_ble_eq_true rfl) dX10_tellsItem_175 ⟨Nat.zero_le _, Nat.zero_le _⟩ (fun H locs hP hD hS => ?_)
                  show W p l e rmX10_tellsItem s m args below meth c H locs 0 0 Q (F0 m 178 ls [.int r48])
                  obtain ⟨rfl, rfl⟩ := inj2 hf
                  subst hQ
                  exact CM_iret hx hb hr rfl hlocks hAe hP hD hS dX10_tellsItem_178
                clear hf
                have hf := hg
                refine lv_icmp_ne (tgt := 174) hx hb dX10_tellsItem_158 (by decide) (fun c51 => ?_) (fun c51 => ?_)
                · replace hf := ifn c51 hf
                  refine lv_iconst (v := (0 : Int32)) hx hb dX10_tellsItem_174 (by decide) ?_
                  obtain rfl := inj1 hf
                  exact J47 _ _ hP hD hS _ (lv_sub hl [] rfl)
                · replace hf := ifp c51 hf
                  refine lv_aload_n hx hb dX10_tellsItem_161 rfl (lv_at hl 4 rfl) ?_
                  refine va_get (D := (dC, dI)) (ci := 8) (v := .ref h_t_nums) (C := RX10) (T := TX10) (N := 32) hx hb hts (in1 tw_X10) hown hK hP 0 rfl rfl 30 (by decide) (hts _ (List.mem_cons_of_mem _ kw_134)) (fun _ h9 => h9) rfl dX10_tellsItem_162 ?_
                  refine lv_iconst (v := (4 : Int32)) hx hb dX10_tellsItem_165 (by decide) ?_
                  refine lv_iload_n hx hb dX10_tellsItem_166 rfl (lv_at hl 5 rfl) ?_
                  refine lv_imul hx hb dX10_tellsItem_167 ?_
                  refine lv_iconst (v := (3 : Int32)) hx hb dX10_tellsItem_168 (by decide) ?_
                  refine lv_iadd hx hb dX10_tellsItem_169 ?_
                  obtain ⟨g52, hf⟩ := chk_some hf
                  refine va_iald hx hb hK hP 1 0 rfl rfl (gin_in g52) dX10_tellsItem_170 ?_
                  refine lv_goto (tgt := 175) hx hb dX10_tellsItem_171 (by decide) ?_
                  obtain rfl := inj1 hf
                  exact J47 _ _ hP hD hS _ (lv_sub hl [] rfl)
              · replace hf := ifn c45 hf
                by_cases c53 : x11 = (17 : Int32)
                · replace hf := ifp c53 hf
                  refine lv_tableIn (tgt := 144) hx hb dX10_tellsItem_42 (by rw [c53]; decide) (by rw [c53]; decide) (by rw [c53]; rfl) (by decide) ?_
                  refine lv_aload_n hx hb dX10_tellsItem_144 rfl (lv_at hl 4 rfl) ?_
                  refine lv_iload_n hx hb dX10_tellsItem_145 rfl (lv_at hl 3 rfl) ?_
                  refine lv_iload hx hb dX10_tellsItem_146 (lv_at hl 0 rfl) ?_
                  refine lv_bipush (v := (14 : Int32)) hx hb dX10_tellsItem_148 (by decide) ?_
                  refine lv_isub hx hb dX10_tellsItem_150 ?_
                  refine lv_iload_n hx hb dX10_tellsItem_151 rfl (lv_at hl 2 rfl) ?_
                  refine lv_iload hx hb dX10_tellsItem_152 (lv_at hl 1 rfl) ?_
                  refine lv_iload hx hb dX10_tellsItem_154 (lv_at hl 0 rfl) ?_
                  refine lv_bipush (v := (15 : Int32)) hx hb dX10_tellsItem_156 (by decide) ?_
                  obtain ⟨x54, hg, hf⟩ := bd1_some hf
                  have J55 : ∀ (H : Heap) (locs : List Loc), va_P (dC, dI) vwCl [(h_t, .inr (8, fX10 h_t_book h_t_images h_t_kept h_t_aside h_t_far h_t_then h_t_row h_t_mays h_t_firstRow h_t_low h_t_high t_noOlder t_thanThis t_known t_knownAge t_moved h_t_lowOne h_t_highOne h_t_ways t_met h_t_left t_hours t_greatest h_t_text t_typed t_at t_start t_token t_value h_t_verbs h_t_nums t_items)), (h_t_nums, .inl (cI, 960, .inl t_nums)), (h_t_verbs, .inl (cI, 240, .inl t_verbs)), (h_t_book, .inl (cI, 460, .inl t_book))] H → va_D A [(h_t, .inr (8, fX10 h_t_book h_t_images h_t_kept h_t_aside h_t_far h_t_then h_t_row h_t_mays h_t_firstRow h_t_low h_t_high t_noOlder t_thanThis t_known t_knownAge t_moved h_t_lowOne h_t_highOne h_t_ways t_met h_t_left t_hours t_greatest h_t_text t_typed t_at t_start t_token t_value h_t_verbs h_t_nums t_items)), (h_t_nums, .inl (cI, 960, .inl t_nums)), (h_t_verbs, .inl (cI, 240, .inl t_verbs)), (h_t_book, .inl (cI, 460, .inl t_book))] → va_S A s.heap H locs → ∀ ls : Array Slot, lv_has ls 6 [] → W p l e rmX10_tellsItem s m args below meth c H locs 0 0 Q (F0 m 175 ls [.int x54, .int x8, .int x5, .int (x11 - (14 : Int32)), .int x2, .ref h_t]) := by
                    intro H locs hP hD hS ls hl
                    obtain ⟨r56, y57, hg58, hf⟩ := bd2_some hf
                    refine CM_callV (C := RX10) (As := [.int x2, .int (x11 - (14 : Int32)), .int x5, .int x8, .int x54]) (rest := []) (wc := [(h_t, .inr (8, fX10 h_t_book h_t_images h_t_kept h_t_aside h_t_far h_t_then h_t_row h_t_mays h_t_firstRow h_t_low h_t_high t_noOlder t_thanThis t_known t_knownAge t_moved h_t_lowOne h_t_highOne h_t_ways t_met h_t_left t_hours t_greatest h_t_text t_typed t_at t_start t_token t_value h_t_verbs h_t_nums t_items)), (h_t_book, .inl (cI, 460, .inl t_book))]) (w1 := [(h_t, .inr (8, fX10 h_t_book h_t_images h_t_kept h_t_aside h_t_far h_t_then h_t_row h_t_mays h_t_firstRow h_t_low h_t_high t_noOlder t_thanThis t_known t_knownAge t_moved h_t_lowOne h_t_highOne h_t_ways t_met h_t_left t_hours t_greatest h_t_text t_typed t_at t_start t_token t_value h_t_verbs h_t_nums t_items)), (h_t_book, .inl (cI, 460, .inl y57))]) (wr := [(h_t_nums, .inl (cI, 960, .inl t_nums)), (h_t_verbs, .inl (cI, 240, .inl t_verbs))]) (wo := [(h_t, .inr (8, fX10 h_t_book h_t_images h_t_kept h_t_aside h_t_far h_t_then h_t_row h_t_mays h_t_firstRow h_t_low h_t_high t_noOlder t_thanThis t_known t_knownAge t_moved h_t_lowOne h_t_highOne h_t_ways t_met h_t_left t_hours t_greatest h_t_text t_typed t_at t_start t_token t_value h_t_verbs h_t_nums t_items)), (h_t_nums, .inl (cI, 960, .inl t_nums)), (h_t_verbs, .inl (cI, 240, .inl t_verbs)), (h_t_book, .inl (cI, 460, .inl y57))]) (v := (some (.int r56))) ⟨hx, hb, hml, hown, hts⟩ (c_X10_fact l dC dI cI cZ te h_t h_t_book h_t_images h_t_kept h_t_aside h_t_far h_t_then h_t_row h_t_mays h_t_firstRow h_t_low h_t_high h_t_lowOne h_t_highOne h_t_ways h_t_left h_t_text h_t_verbs h_t_nums t_noOlder t_thanThis t_known t_knownAge t_moved t_met t_hours t_greatest t_typed t_at t_start t_token t_value t_items t_book x2 (x11 - (14 : Int32)) x5 x8 x54 r56 y57 hg58) (cwV 5 hts (gV kw_378 kw_379 kw_380 kw_159 kw_381) rfl rfl rfl (by decide +kernel) ⟨Nat.le_of_ble_eq_true rfl, Nat.le_of_ble_eq_true rfl⟩) (kS_env te) hK hP hD hS hA hE [0, 3] [1, 2] [2, 0, 1, 3] rfl rfl (by decide) (by decide) (by decide) (by decide) rfl 0 8 rfl rfl rfl rfl hl.1 rfl (Nat.le_of_ble_eq_true rfl) dX10_tellsItem_175 ⟨Nat.zero_le _, Nat.zero_le _⟩ (fun H locs hP hD hS => ?_)
                    show W p l e rmX10_tellsItem s m args below meth c H locs 0 0 Q (F0 m 178 ls [.int r56])
                    obtain ⟨rfl, rfl⟩ := inj2 hf
                    subst hQ
                    exact CM_iret hx hb hr rfl hlocks hAe hP hD hS dX10_tellsItem_178
                  clear hf
                  have hf := hg
                  refine lv_icmp_ne (tgt := 174) hx hb dX10_tellsItem_158 (by decide) (fun c59 => ?_) (fun c59 => ?_)
                  · replace hf := ifn c59 hf
                    refine lv_iconst (v := (0 : Int32)) hx hb dX10_tellsItem_174 (by decide) ?_
                    obtain rfl := inj1 hf
                    exact J55 _ _ hP hD hS _ (lv_sub hl [] rfl)
                  · replace hf := ifp c59 hf
                    refine lv_aload_n hx hb dX10_tellsItem_161 rfl (lv_at hl 4 rfl) ?_
                    refine va_get (D := (dC, dI)) (ci := 8) (v := .ref h_t_nums) (C := RX10) (T := TX10) (N := 32) hx hb hts (in1 tw_X10) hown hK hP 0 rfl rfl 30 (by decide) (hts _ (List.mem_cons_of_mem _ kw_134)) (fun _ h9 => h9) rfl dX10_tellsItem_162 ?_
                    refine lv_iconst (v := (4 : Int32)) hx hb dX10_tellsItem_165 (by decide) ?_
                    refine lv_iload_n hx hb dX10_tellsItem_166 rfl (lv_at hl 5 rfl) ?_
                    refine lv_imul hx hb dX10_tellsItem_167 ?_
                    refine lv_iconst (v := (3 : Int32)) hx hb dX10_tellsItem_168 (by decide) ?_
                    refine lv_iadd hx hb dX10_tellsItem_169 ?_
                    obtain ⟨g60, hf⟩ := chk_some hf
                    refine va_iald hx hb hK hP 1 0 rfl rfl (gin_in g60) dX10_tellsItem_170 ?_
                    refine lv_goto (tgt := 175) hx hb dX10_tellsItem_171 (by decide) ?_
                    obtain rfl := inj1 hf
                    exact J55 _ _ hP hD hS _ (lv_sub hl [] rfl)
                · replace hf := ifn c53 hf
                  by_cases c61 : x11 = (18 : Int32)
                  · replace hf := ifp c61 hf
                    refine lv_tableIn (tgt := 144) hx hb dX10_tellsItem_42 (by rw [c61]; decide) (by rw [c61]; decide) (by rw [c61]; rfl) (by decide) ?_
                    refine lv_aload_n hx hb dX10_tellsItem_144 rfl (lv_at hl 4 rfl) ?_
                    refine lv_iload_n hx hb dX10_tellsItem_145 rfl (lv_at hl 3 rfl) ?_
                    refine lv_iload hx hb dX10_tellsItem_146 (lv_at hl 0 rfl) ?_
                    refine lv_bipush (v := (14 : Int32)) hx hb dX10_tellsItem_148 (by decide) ?_
                    refine lv_isub hx hb dX10_tellsItem_150 ?_
                    refine lv_iload_n hx hb dX10_tellsItem_151 rfl (lv_at hl 2 rfl) ?_
                    refine lv_iload hx hb dX10_tellsItem_152 (lv_at hl 1 rfl) ?_
                    refine lv_iload hx hb dX10_tellsItem_154 (lv_at hl 0 rfl) ?_
                    refine lv_bipush (v := (15 : Int32)) hx hb dX10_tellsItem_156 (by decide) ?_
                    obtain ⟨x62, hg, hf⟩ := bd1_some hf
                    have J63 : ∀ (H : Heap) (locs : List Loc), va_P (dC, dI) vwCl [(h_t, .inr (8, fX10 h_t_book h_t_images h_t_kept h_t_aside h_t_far h_t_then h_t_row h_t_mays h_t_firstRow h_t_low h_t_high t_noOlder t_thanThis t_known t_knownAge t_moved h_t_lowOne h_t_highOne h_t_ways t_met h_t_left t_hours t_greatest h_t_text t_typed t_at t_start t_token t_value h_t_verbs h_t_nums t_items)), (h_t_nums, .inl (cI, 960, .inl t_nums)), (h_t_verbs, .inl (cI, 240, .inl t_verbs)), (h_t_book, .inl (cI, 460, .inl t_book))] H → va_D A [(h_t, .inr (8, fX10 h_t_book h_t_images h_t_kept h_t_aside h_t_far h_t_then h_t_row h_t_mays h_t_firstRow h_t_low h_t_high t_noOlder t_thanThis t_known t_knownAge t_moved h_t_lowOne h_t_highOne h_t_ways t_met h_t_left t_hours t_greatest h_t_text t_typed t_at t_start t_token t_value h_t_verbs h_t_nums t_items)), (h_t_nums, .inl (cI, 960, .inl t_nums)), (h_t_verbs, .inl (cI, 240, .inl t_verbs)), (h_t_book, .inl (cI, 460, .inl t_book))] → va_S A s.heap H locs → ∀ ls : Array Slot, lv_has ls 6 [] → W p l e rmX10_tellsItem s m args below meth c H locs 0 0 Q (F0 m 175 ls [.int x62, .int x8, .int x5, .int (x11 - (14 : Int32)), .int x2, .ref h_t]) := by
                      intro H locs hP hD hS ls hl
                      obtain ⟨r64, y65, hg66, hf⟩ := bd2_some hf
                      refine CM_callV (C := RX10) (As := [.int x2, .int (x11 - (14 : Int32)), .int x5, .int x8, .int x62]) (rest := []) (wc := [(h_t, .inr (8, fX10 h_t_book h_t_images h_t_kept h_t_aside h_t_far h_t_then h_t_row h_t_mays h_t_firstRow h_t_low h_t_high t_noOlder t_thanThis t_known t_knownAge t_moved h_t_lowOne h_t_highOne h_t_ways t_met h_t_left t_hours t_greatest h_t_text t_typed t_at t_start t_token t_value h_t_verbs h_t_nums t_items)), (h_t_book, .inl (cI, 460, .inl t_book))]) (w1 := [(h_t, .inr (8, fX10 h_t_book h_t_images h_t_kept h_t_aside h_t_far h_t_then h_t_row h_t_mays h_t_firstRow h_t_low h_t_high t_noOlder t_thanThis t_known t_knownAge t_moved h_t_lowOne h_t_highOne h_t_ways t_met h_t_left t_hours t_greatest h_t_text t_typed t_at t_start t_token t_value h_t_verbs h_t_nums t_items)), (h_t_book, .inl (cI, 460, .inl y65))]) (wr := [(h_t_nums, .inl (cI, 960, .inl t_nums)), (h_t_verbs, .inl (cI, 240, .inl t_verbs))]) (wo := [(h_t, .inr (8, fX10 h_t_book h_t_images h_t_kept h_t_aside h_t_far h_t_then h_t_row h_t_mays h_t_firstRow h_t_low h_t_high t_noOlder t_thanThis t_known t_knownAge t_moved h_t_lowOne h_t_highOne h_t_ways t_met h_t_left t_hours t_greatest h_t_text t_typed t_at t_start t_token t_value h_t_verbs h_t_nums t_items)), (h_t_nums, .inl (cI, 960, .inl t_nums)), (h_t_verbs, .inl (cI, 240, .inl t_verbs)), (h_t_book, .inl (cI, 460, .inl y65))]) (v := (some (.int r64))) ⟨hx, hb, hml, hown, hts⟩ (c_X10_fact l dC dI cI cZ te h_t h_t_book h_t_images h_t_kept h_t_aside h_t_far h_t_then h_t_row h_t_mays h_t_firstRow h_t_low h_t_high h_t_lowOne h_t_highOne h_t_ways h_t_left h_t_text h_t_verbs h_t_nums t_noOlder t_thanThis t_known t_knownAge t_moved t_met t_hours t_greatest t_typed t_at t_start t_token t_value t_items t_book x2 (x11 - (14 : Int32)) x5 x8 x62 r64 y65 hg66) (cwV 5 hts (gV kw_378 kw_379 kw_380 kw_159 kw_381) rfl rfl rfl (by decide +kernel) ⟨Nat.le_of_ble_eq_true rfl, Nat.le_of_ble_eq_true rfl⟩) (kS_env te) hK hP hD hS hA hE [0, 3] [1, 2] [2, 0, 1, 3] rfl rfl (by decide) (by decide) (by decide) (by decide) rfl 0 8 rfl rfl rfl rfl hl.1 rfl (Nat.le_of_ble_eq_true rfl) dX10_tellsItem_175 ⟨Nat.zero_le _, Nat.zero_le _⟩ (fun H locs hP hD hS => ?_)
                      show W p l e rmX10_tellsItem s m args below meth c H locs 0 0 Q (F0 m 178 ls [.int r64])
                      obtain ⟨rfl, rfl⟩ := inj2 hf
                      subst hQ
                      exact CM_iret hx hb hr rfl hlocks hAe hP hD hS dX10_tellsItem_178
                    clear hf
                    have hf := hg
                    refine lv_icmp_ne (tgt := 174) hx hb dX10_tellsItem_158 (by decide) (fun c67 => ?_) (fun c67 => ?_)
                    · replace hf := ifn c67 hf
                      refine lv_iconst (v := (0 : Int32)) hx hb dX10_tellsItem_174 (by decide) ?_
                      obtain rfl := inj1 hf
                      exact J63 _ _ hP hD hS _ (lv_sub hl [] rfl)
                    · replace hf := ifp c67 hf
                      refine lv_aload_n hx hb dX10_tellsItem_161 rfl (lv_at hl 4 rfl) ?_
                      refine va_get (D := (dC, dI)) (ci := 8) (v := .ref h_t_nums) (C := RX10) (T := TX10) (N := 32) hx hb hts (in1 tw_X10) hown hK hP 0 rfl rfl 30 (by decide) (hts _ (List.mem_cons_of_mem _ kw_134)) (fun _ h9 => h9) rfl dX10_tellsItem_162 ?_
                      refine lv_iconst (v := (4 : Int32)) hx hb dX10_tellsItem_165 (by decide) ?_
                      refine lv_iload_n hx hb dX10_tellsItem_166 rfl (lv_at hl 5 rfl) ?_
                      refine lv_imul hx hb dX10_tellsItem_167 ?_
                      refine lv_iconst (v := (3 : Int32)) hx hb dX10_tellsItem_168 (by decide) ?_
                      refine lv_iadd hx hb dX10_tellsItem_169 ?_
                      obtain ⟨g68, hf⟩ := chk_some hf
                      refine va_iald hx hb hK hP 1 0 rfl rfl (gin_in g68) dX10_tellsItem_170 ?_
                      refine lv_goto (tgt := 175) hx hb dX10_tellsItem_171 (by decide) ?_
                      obtain rfl := inj1 hf
                      exact J63 _ _ hP hD hS _ (lv_sub hl [] rfl)
                  · replace hf := ifn c61 hf
                    by_cases c69 : x11 = (19 : Int32)
                    · replace hf := ifp c69 hf
                      refine lv_tableIn (tgt := 130) hx hb dX10_tellsItem_42 (by rw [c69]; decide) (by rw [c69]; decide) (by rw [c69]; rfl) (by decide) ?_
                      refine lv_aload_n hx hb dX10_tellsItem_130 rfl (lv_at hl 4 rfl) ?_
                      refine lv_iload hx hb dX10_tellsItem_131 (lv_at hl 0 rfl) ?_
                      refine lv_bipush (v := (19 : Int32)) hx hb dX10_tellsItem_133 (by decide) ?_
                      refine lv_isub hx hb dX10_tellsItem_135 ?_
                      refine lv_iload_n hx hb dX10_tellsItem_136 rfl (lv_at hl 3 rfl) ?_
                      refine lv_iload_n hx hb dX10_tellsItem_137 rfl (lv_at hl 2 rfl) ?_
                      refine lv_iload hx hb dX10_tellsItem_138 (lv_at hl 1 rfl) ?_
                      obtain ⟨r70, y71, hg72, hf⟩ := bd2_some hf
                      refine CM_callV (C := RX10) (As := [.int (x11 - (19 : Int32)), .int x2, .int x5, .int x8]) (rest := []) (wc := [(h_t, .inr (8, fX10 h_t_book h_t_images h_t_kept h_t_aside h_t_far h_t_then h_t_row h_t_mays h_t_firstRow h_t_low h_t_high t_noOlder t_thanThis t_known t_knownAge t_moved h_t_lowOne h_t_highOne h_t_ways t_met h_t_left t_hours t_greatest h_t_text t_typed t_at t_start t_token t_value h_t_verbs h_t_nums t_items)), (h_t_book, .inl (cI, 460, .inl t_book))]) (w1 := [(h_t, .inr (8, fX10 h_t_book h_t_images h_t_kept h_t_aside h_t_far h_t_then h_t_row h_t_mays h_t_firstRow h_t_low h_t_high t_noOlder t_thanThis t_known t_knownAge t_moved h_t_lowOne h_t_highOne h_t_ways t_met h_t_left t_hours t_greatest h_t_text t_typed t_at t_start t_token t_value h_t_verbs h_t_nums t_items)), (h_t_book, .inl (cI, 460, .inl y71))]) (wr := [(h_t_nums, .inl (cI, 960, .inl t_nums)), (h_t_verbs, .inl (cI, 240, .inl t_verbs))]) (wo := [(h_t, .inr (8, fX10 h_t_book h_t_images h_t_kept h_t_aside h_t_far h_t_then h_t_row h_t_mays h_t_firstRow h_t_low h_t_high t_noOlder t_thanThis t_known t_knownAge t_moved h_t_lowOne h_t_highOne h_t_ways t_met h_t_left t_hours t_greatest h_t_text t_typed t_at t_start t_token t_value h_t_verbs h_t_nums t_items)), (h_t_nums, .inl (cI, 960, .inl t_nums)), (h_t_verbs, .inl (cI, 240, .inl t_verbs)), (h_t_book, .inl (cI, 460, .inl y71))]) (v := (some (.int r70))) ⟨hx, hb, hml, hown, hts⟩ (c_X10_sign l dC dI cI cZ te h_t h_t_book h_t_images h_t_kept h_t_aside h_t_far h_t_then h_t_row h_t_mays h_t_firstRow h_t_low h_t_high h_t_lowOne h_t_highOne h_t_ways h_t_left h_t_text h_t_verbs h_t_nums t_noOlder t_thanThis t_known t_knownAge t_moved t_met t_hours t_greatest t_typed t_at t_start t_token t_value t_items t_book (x11 - (19 : Int32)) x2 x5 x8 r70 y71 hg72) (cwV 4 hts (gV kw_382 kw_383 kw_384 kw_159 kw_385) rfl rfl rfl (by decide +kernel) ⟨Nat.le_of_ble_eq_true rfl, Nat.le_of_ble_eq_true rfl⟩) (kS_env te) hK hP hD hS hA hE [0, 3] [1, 2] [2, 0, 1, 3] rfl rfl (by decide) (by decide) (by decide) (by decide) rfl 0 8 rfl rfl rfl rfl hl.1 rfl (Nat.le_of_ble_eq_true rfl) dX10_tellsItem_140 ⟨Nat.zero_le _, Nat.zero_le _⟩ (fun H locs hP hD hS => ?_)
                      show W p l e rmX10_tellsItem s m args below meth c H locs 0 0 Q (F0 m 143 ls [.int r70])
                      obtain ⟨rfl, rfl⟩ := inj2 hf
                      subst hQ
                      exact CM_iret hx hb hr rfl hlocks hAe hP hD hS dX10_tellsItem_143
                    · replace hf := ifn c69 hf
                      by_cases c73 : x11 = (20 : Int32)
                      · replace hf := ifp c73 hf
                        refine lv_tableIn (tgt := 130) hx hb dX10_tellsItem_42 (by rw [c73]; decide) (by rw [c73]; decide) (by rw [c73]; rfl) (by decide) ?_
                        refine lv_aload_n hx hb dX10_tellsItem_130 rfl (lv_at hl 4 rfl) ?_
                        refine lv_iload hx hb dX10_tellsItem_131 (lv_at hl 0 rfl) ?_
                        refine lv_bipush (v := (19 : Int32)) hx hb dX10_tellsItem_133 (by decide) ?_
                        refine lv_isub hx hb dX10_tellsItem_135 ?_
                        refine lv_iload_n hx hb dX10_tellsItem_136 rfl (lv_at hl 3 rfl) ?_
                        refine lv_iload_n hx hb dX10_tellsItem_137 rfl (lv_at hl 2 rfl) ?_
                        refine lv_iload hx hb dX10_tellsItem_138 (lv_at hl 1 rfl) ?_
                        obtain ⟨r74, y75, hg76, hf⟩ := bd2_some hf
                        refine CM_callV (C := RX10) (As := [.int (x11 - (19 : Int32)), .int x2, .int x5, .int x8]) (rest := []) (wc := [(h_t, .inr (8, fX10 h_t_book h_t_images h_t_kept h_t_aside h_t_far h_t_then h_t_row h_t_mays h_t_firstRow h_t_low h_t_high t_noOlder t_thanThis t_known t_knownAge t_moved h_t_lowOne h_t_highOne h_t_ways t_met h_t_left t_hours t_greatest h_t_text t_typed t_at t_start t_token t_value h_t_verbs h_t_nums t_items)), (h_t_book, .inl (cI, 460, .inl t_book))]) (w1 := [(h_t, .inr (8, fX10 h_t_book h_t_images h_t_kept h_t_aside h_t_far h_t_then h_t_row h_t_mays h_t_firstRow h_t_low h_t_high t_noOlder t_thanThis t_known t_knownAge t_moved h_t_lowOne h_t_highOne h_t_ways t_met h_t_left t_hours t_greatest h_t_text t_typed t_at t_start t_token t_value h_t_verbs h_t_nums t_items)), (h_t_book, .inl (cI, 460, .inl y75))]) (wr := [(h_t_nums, .inl (cI, 960, .inl t_nums)), (h_t_verbs, .inl (cI, 240, .inl t_verbs))]) (wo := [(h_t, .inr (8, fX10 h_t_book h_t_images h_t_kept h_t_aside h_t_far h_t_then h_t_row h_t_mays h_t_firstRow h_t_low h_t_high t_noOlder t_thanThis t_known t_knownAge t_moved h_t_lowOne h_t_highOne h_t_ways t_met h_t_left t_hours t_greatest h_t_text t_typed t_at t_start t_token t_value h_t_verbs h_t_nums t_items)), (h_t_nums, .inl (cI, 960, .inl t_nums)), (h_t_verbs, .inl (cI, 240, .inl t_verbs)), (h_t_book, .inl (cI, 460, .inl y75))]) (v := (some (.int r74))) ⟨hx, hb, hml, hown, hts⟩ (c_X10_sign l dC dI cI cZ te h_t h_t_book h_t_images h_t_kept h_t_aside h_t_far h_t_then h_t_row h_t_mays h_t_firstRow h_t_low h_t_high h_t_lowOne h_t_highOne h_t_ways h_t_left h_t_text h_t_verbs h_t_nums t_noOlder t_thanThis t_known t_knownAge t_moved t_met t_hours t_greatest t_typed t_at t_start t_token t_value t_items t_book (x11 - (19 : Int32)) x2 x5 x8 r74 y75 hg76) (cwV 4 hts (gV kw_382 kw_383 kw_384 kw_159 kw_385) rfl rfl rfl (by decide +kernel) ⟨Nat.le_of_ble_eq_true rfl, Nat.le_of_ble_eq_true rfl⟩) (kS_env te) hK hP hD hS hA hE [0, 3] [1, 2] [2, 0, 1, 3] rfl rfl (by decide) (by decide) (by decide) (by decide) rfl 0 8 rfl rfl rfl rfl hl.1 rfl (Nat.le_of_ble_eq_true rfl) dX10_tellsItem_140 ⟨Nat.zero_le _, Nat.zero_le _⟩ (fun H locs hP hD hS => ?_)
                        show W p l e rmX10_tellsItem s m args below meth c H locs 0 0 Q (F0 m 143 ls [.int r74])
                        obtain ⟨rfl, rfl⟩ := inj2 hf
                        subst hQ
                        exact CM_iret hx hb hr rfl hlocks hAe hP hD hS dX10_tellsItem_143
                      · replace hf := ifn c73 hf
                        by_cases c77 : x11 = (21 : Int32)
                        · replace hf := ifp c77 hf
                          refine lv_tableIn (tgt := 130) hx hb dX10_tellsItem_42 (by rw [c77]; decide) (by rw [c77]; decide) (by rw [c77]; rfl) (by decide) ?_
                          refine lv_aload_n hx hb dX10_tellsItem_130 rfl (lv_at hl 4 rfl) ?_
                          refine lv_iload hx hb dX10_tellsItem_131 (lv_at hl 0 rfl) ?_
                          refine lv_bipush (v := (19 : Int32)) hx hb dX10_tellsItem_133 (by decide) ?_
                          refine lv_isub hx hb dX10_tellsItem_135 ?_
                          refine lv_iload_n hx hb dX10_tellsItem_136 rfl (lv_at hl 3 rfl) ?_
                          refine lv_iload_n hx hb dX10_tellsItem_137 rfl (lv_at hl 2 rfl) ?_
                          refine lv_iload hx hb dX10_tellsItem_138 (lv_at hl 1 rfl) ?_
                          obtain ⟨r78, y79, hg80, hf⟩ := bd2_some hf
                          refine CM_callV (C := RX10) (As := [.int (x11 - (19 : Int32)), .int x2, .int x5, .int x8]) (rest := []) (wc := [(h_t, .inr (8, fX10 h_t_book h_t_images h_t_kept h_t_aside h_t_far h_t_then h_t_row h_t_mays h_t_firstRow h_t_low h_t_high t_noOlder t_thanThis t_known t_knownAge t_moved h_t_lowOne h_t_highOne h_t_ways t_met h_t_left t_hours t_greatest h_t_text t_typed t_at t_start t_token t_value h_t_verbs h_t_nums t_items)), (h_t_book, .inl (cI, 460, .inl t_book))]) (w1 := [(h_t, .inr (8, fX10 h_t_book h_t_images h_t_kept h_t_aside h_t_far h_t_then h_t_row h_t_mays h_t_firstRow h_t_low h_t_high t_noOlder t_thanThis t_known t_knownAge t_moved h_t_lowOne h_t_highOne h_t_ways t_met h_t_left t_hours t_greatest h_t_text t_typed t_at t_start t_token t_value h_t_verbs h_t_nums t_items)), (h_t_book, .inl (cI, 460, .inl y79))]) (wr := [(h_t_nums, .inl (cI, 960, .inl t_nums)), (h_t_verbs, .inl (cI, 240, .inl t_verbs))]) (wo := [(h_t, .inr (8, fX10 h_t_book h_t_images h_t_kept h_t_aside h_t_far h_t_then h_t_row h_t_mays h_t_firstRow h_t_low h_t_high t_noOlder t_thanThis t_known t_knownAge t_moved h_t_lowOne h_t_highOne h_t_ways t_met h_t_left t_hours t_greatest h_t_text t_typed t_at t_start t_token t_value h_t_verbs h_t_nums t_items)), (h_t_nums, .inl (cI, 960, .inl t_nums)), (h_t_verbs, .inl (cI, 240, .inl t_verbs)), (h_t_book, .inl (cI, 460, .inl y79))]) (v := (some (.int r78))) ⟨hx, hb, hml, hown, hts⟩ (c_X10_sign l dC dI cI cZ te h_t h_t_book h_t_images h_t_kept h_t_aside h_t_far h_t_then h_t_row h_t_mays h_t_firstRow h_t_low h_t_high h_t_lowOne h_t_highOne h_t_ways h_t_left h_t_text h_t_verbs h_t_nums t_noOlder t_thanThis t_known t_knownAge t_moved t_met t_hours t_greatest t_typed t_at t_start t_token t_value t_items t_book (x11 - (19 : Int32)) x2 x5 x8 r78 y79 hg80) (cwV 4 hts (gV kw_382 kw_383 kw_384 kw_159 kw_385) rfl rfl rfl (by decide +kernel) ⟨Nat.le_of_ble_eq_true rfl, Nat.le_of_ble_eq_true rfl⟩) (kS_env te) hK hP hD hS hA hE [0, 3] [1, 2] [2, 0, 1, 3] rfl rfl (by decide) (by decide) (by decide) (by decide) rfl 0 8 rfl rfl rfl rfl hl.1 rfl (Nat.le_of_ble_eq_true rfl) dX10_tellsItem_140 ⟨Nat.zero_le _, Nat.zero_le _⟩ (fun H locs hP hD hS => ?_)
                          show W p l e rmX10_tellsItem s m args below meth c H locs 0 0 Q (F0 m 143 ls [.int r78])
                          obtain ⟨rfl, rfl⟩ := inj2 hf
                          subst hQ
                          exact CM_iret hx hb hr rfl hlocks hAe hP hD hS dX10_tellsItem_143
                        · replace hf := ifn c77 hf
                          refine lv_tableOut (tgt := 144) hx hb dX10_tellsItem_42 (by have nc13 := lv_neT c13 (a := 10) rfl; have nc17 := lv_neT c17 (a := 11) rfl; have nc21 := lv_neT c21 (a := 12) rfl; have nc25 := lv_neT c25 (a := 13) rfl; have nc29 := lv_neT c29 (a := 14) rfl; have nc37 := lv_neT c37 (a := 15) rfl; have nc45 := lv_neT c45 (a := 16) rfl; have nc53 := lv_neT c53 (a := 17) rfl; have nc61 := lv_neT c61 (a := 18) rfl; have nc69 := lv_neT c69 (a := 19) rfl; have nc73 := lv_neT c73 (a := 20) rfl; have nc77 := lv_neT c77 (a := 21) rfl; omega) (by decide) ?_
                          refine lv_aload_n hx hb dX10_tellsItem_144 rfl (lv_at hl 4 rfl) ?_
                          refine lv_iload_n hx hb dX10_tellsItem_145 rfl (lv_at hl 3 rfl) ?_
                          refine lv_iload hx hb dX10_tellsItem_146 (lv_at hl 0 rfl) ?_
                          refine lv_bipush (v := (14 : Int32)) hx hb dX10_tellsItem_148 (by decide) ?_
                          refine lv_isub hx hb dX10_tellsItem_150 ?_
                          refine lv_iload_n hx hb dX10_tellsItem_151 rfl (lv_at hl 2 rfl) ?_
                          refine lv_iload hx hb dX10_tellsItem_152 (lv_at hl 1 rfl) ?_
                          refine lv_iload hx hb dX10_tellsItem_154 (lv_at hl 0 rfl) ?_
                          refine lv_bipush (v := (15 : Int32)) hx hb dX10_tellsItem_156 (by decide) ?_
                          obtain ⟨x81, hg, hf⟩ := bd1_some hf
                          have J82 : ∀ (H : Heap) (locs : List Loc), va_P (dC, dI) vwCl [(h_t, .inr (8, fX10 h_t_book h_t_images h_t_kept h_t_aside h_t_far h_t_then h_t_row h_t_mays h_t_firstRow h_t_low h_t_high t_noOlder t_thanThis t_known t_knownAge t_moved h_t_lowOne h_t_highOne h_t_ways t_met h_t_left t_hours t_greatest h_t_text t_typed t_at t_start t_token t_value h_t_verbs h_t_nums t_items)), (h_t_nums, .inl (cI, 960, .inl t_nums)), (h_t_verbs, .inl (cI, 240, .inl t_verbs)), (h_t_book, .inl (cI, 460, .inl t_book))] H → va_D A [(h_t, .inr (8, fX10 h_t_book h_t_images h_t_kept h_t_aside h_t_far h_t_then h_t_row h_t_mays h_t_firstRow h_t_low h_t_high t_noOlder t_thanThis t_known t_knownAge t_moved h_t_lowOne h_t_highOne h_t_ways t_met h_t_left t_hours t_greatest h_t_text t_typed t_at t_start t_token t_value h_t_verbs h_t_nums t_items)), (h_t_nums, .inl (cI, 960, .inl t_nums)), (h_t_verbs, .inl (cI, 240, .inl t_verbs)), (h_t_book, .inl (cI, 460, .inl t_book))] → va_S A s.heap H locs → ∀ ls : Array Slot, lv_has ls 6 [] → W p l e rmX10_tellsItem s m args below meth c H locs 0 0 Q (F0 m 175 ls [.int x81, .int x8, .int x5, .int (x11 - (14 : Int32)), .int x2, .ref h_t]) := by
                            intro H locs hP hD hS ls hl
                            obtain ⟨r83, y84, hg85, hf⟩ := bd2_some hf
                            refine CM_callV (C := RX10) (As := [.int x2, .int (x11 - (14 : Int32)), .int x5, .int x8, .int x81]) (rest := []) (wc := [(h_t, .inr (8, fX10 h_t_book h_t_images h_t_kept h_t_aside h_t_far h_t_then h_t_row h_t_mays h_t_firstRow h_t_low h_t_high t_noOlder t_thanThis t_known t_knownAge t_moved h_t_lowOne h_t_highOne h_t_ways t_met h_t_left t_hours t_greatest h_t_text t_typed t_at t_start t_token t_value h_t_verbs h_t_nums t_items)), (h_t_book, .inl (cI, 460, .inl t_book))]) (w1 := [(h_t, .inr (8, fX10 h_t_book h_t_images h_t_kept h_t_aside h_t_far h_t_then h_t_row h_t_mays h_t_firstRow h_t_low h_t_high t_noOlder t_thanThis t_known t_knownAge t_moved h_t_lowOne h_t_highOne h_t_ways t_met h_t_left t_hours t_greatest h_t_text t_typed t_at t_start t_token t_value h_t_verbs h_t_nums t_items)), (h_t_book, .inl (cI, 460, .inl y84))]) (wr := [(h_t_nums, .inl (cI, 960, .inl t_nums)), (h_t_verbs, .inl (cI, 240, .inl t_verbs))]) (wo := [(h_t, .inr (8, fX10 h_t_book h_t_images h_t_kept h_t_aside h_t_far h_t_then h_t_row h_t_mays h_t_firstRow h_t_low h_t_high t_noOlder t_thanThis t_known t_knownAge t_moved h_t_lowOne h_t_highOne h_t_ways t_met h_t_left t_hours t_greatest h_t_text t_typed t_at t_start t_token t_value h_t_verbs h_t_nums t_items)), (h_t_nums, .inl (cI, 960, .inl t_nums)), (h_t_verbs, .inl (cI, 240, .inl t_verbs)), (h_t_book, .inl (cI, 460, .inl y84))]) (v := (some (.int r83))) ⟨hx, hb, hml, hown, hts⟩ (c_X10_fact l dC dI cI cZ te h_t h_t_book h_t_images h_t_kept h_t_aside h_t_far h_t_then h_t_row h_t_mays h_t_firstRow h_t_low h_t_high h_t_lowOne h_t_highOne h_t_ways h_t_left h_t_text h_t_verbs h_t_nums t_noOlder t_thanThis t_known t_knownAge t_moved t_met t_hours t_greatest t_typed t_at t_start t_token t_value t_items t_book x2 (x11 - (14 : Int32)) x5 x8 x81 r83 y84 hg85) (cwV 5 hts (gV kw_378 kw_379 kw_380 kw_159 kw_381) rfl rfl rfl (by decide +kernel) ⟨Nat.le_of_ble_eq_true rfl, Nat.le_of_ble_eq_true rfl⟩) (kS_env te) hK hP hD hS hA hE [0, 3] [1, 2] [2, 0, 1, 3] rfl rfl (by decide) (by decide) (by decide) (by decide) rfl 0 8 rfl rfl rfl rfl hl.1 rfl (Nat.le_of_ble_eq_true rfl) dX10_tellsItem_175 ⟨Nat.zero_le _, Nat.zero_le _⟩ (fun H locs hP hD hS => ?_)
                            show W p l e rmX10_tellsItem s m args below meth c H locs 0 0 Q (F0 m 178 ls [.int r83])
                            obtain ⟨rfl, rfl⟩ := inj2 hf
                            subst hQ
                            exact CM_iret hx hb hr rfl hlocks hAe hP hD hS dX10_tellsItem_178
                          clear hf
                          have hf := hg
                          refine lv_icmp_ne (tgt := 174) hx hb dX10_tellsItem_158 (by decide) (fun c86 => ?_) (fun c86 => ?_)
                          · replace hf := ifn c86 hf
                            refine lv_iconst (v := (0 : Int32)) hx hb dX10_tellsItem_174 (by decide) ?_
                            obtain rfl := inj1 hf
                            exact J82 _ _ hP hD hS _ (lv_sub hl [] rfl)
                          · replace hf := ifp c86 hf
                            refine lv_aload_n hx hb dX10_tellsItem_161 rfl (lv_at hl 4 rfl) ?_
                            refine va_get (D := (dC, dI)) (ci := 8) (v := .ref h_t_nums) (C := RX10) (T := TX10) (N := 32) hx hb hts (in1 tw_X10) hown hK hP 0 rfl rfl 30 (by decide) (hts _ (List.mem_cons_of_mem _ kw_134)) (fun _ h9 => h9) rfl dX10_tellsItem_162 ?_
                            refine lv_iconst (v := (4 : Int32)) hx hb dX10_tellsItem_165 (by decide) ?_
                            refine lv_iload_n hx hb dX10_tellsItem_166 rfl (lv_at hl 5 rfl) ?_
                            refine lv_imul hx hb dX10_tellsItem_167 ?_
                            refine lv_iconst (v := (3 : Int32)) hx hb dX10_tellsItem_168 (by decide) ?_
                            refine lv_iadd hx hb dX10_tellsItem_169 ?_
                            obtain ⟨g87, hf⟩ := chk_some hf
                            refine va_iald hx hb hK hP 1 0 rfl rfl (gin_in g87) dX10_tellsItem_170 ?_
                            refine lv_goto (tgt := 175) hx hb dX10_tellsItem_171 (by decide) ?_
                            obtain rfl := inj1 hf
                            exact J82 _ _ hP hD hS _ (lv_sub hl [] rfl)
def rmX10_read : Room := { frames := 5, cells := 0, slots := 0, locals := 122 }
abbrev wqX10_read : List Cond := Cond.code yX10_read cX10_read 3 (some .int) :: tG
set_option maxHeartbeats 4000000 in
set_option maxRecDepth 100000 in
theorem c_X10_read (l : Launch) (dC : Nat → ClassId) (dI : Nat → Nat → Nat) (cI cZ : ClassId) (te : Nat → Nat) (h_t : Nat) (h_t_book : Nat) (h_t_images : Nat) (h_t_kept : Nat) (h_t_aside : Nat) (h_t_far : Nat) (h_t_then : Nat) (h_t_row : Nat) (h_t_mays : Nat) (h_t_firstRow : Nat) (h_t_low : Nat) (h_t_high : Nat) (h_t_lowOne : Nat) (h_t_highOne : Nat) (h_t_ways : Nat) (h_t_left : Nat) (h_t_text : Nat) (h_t_verbs : Nat) (h_t_nums : Nat) (t_noOlder : Int32) (t_thanThis : Int32) (t_known : Int32) (t_knownAge : Int32) (t_moved : Int32) (t_met : Int32) (t_hours : Int32) (t_greatest : Int32) (t_typed : Int32) (t_at : Int32) (t_start : Int32) (t_token : Int32) (t_value : Int32) (t_items : Int32) (t_text : Nat → Int32) (t_nums : Nat → Int32) (t_verbs : Nat → Int32) (t_book : Nat → Int32) (t_aside : Nat → Int32) (o0 : Int32) (o1 : Int32) (o2 : Int32) (o3 : Int32) (o4 : Int32) (o5 : Int32) (o6 : Int32) (o7 : Nat → Int32) (o8 : Nat → Int32) (o9 : Nat → Int32) (o10 : Nat → Int32) (hf : f_X10_read t_typed t_value t_text t_nums t_verbs t_book t_aside = some (o0, o1, o2, o3, o4, o5, o6, o7, o8, o9, o10)) : CM l yX10_read wqX10_read rmX10_read (kS te) dC dI cI cZ [.ref h_t] [(h_t, .inr (8, fX10 h_t_book h_t_images h_t_kept h_t_aside h_t_far h_t_then h_t_row h_t_mays h_t_firstRow h_t_low h_t_high t_noOlder t_thanThis t_known t_knownAge t_moved h_t_lowOne h_t_highOne h_t_ways t_met h_t_left t_hours t_greatest h_t_text t_typed t_at t_start t_token t_value h_t_verbs h_t_nums t_items)), (h_t_text, .inl (cI, 240, .inl t_text)), (h_t_nums, .inl (cI, 960, .inl t_nums)), (h_t_verbs, .inl (cI, 240, .inl t_verbs)), (h_t_book, .inl (cI, 460, .inl t_book)), (h_t_aside, .inl (cI, 460, .inl t_aside))] [(h_t, .inr (8, fX10 h_t_book h_t_images h_t_kept h_t_aside h_t_far h_t_then h_t_row h_t_mays h_t_firstRow h_t_low h_t_high t_noOlder t_thanThis t_known t_knownAge t_moved h_t_lowOne h_t_highOne h_t_ways t_met h_t_left t_hours t_greatest h_t_text o1 o2 o3 o4 o5 h_t_verbs h_t_nums o6)), (h_t_text, .inl (cI, 240, .inl t_text)), (h_t_nums, .inl (cI, 960, .inl o7)), (h_t_verbs, .inl (cI, 240, .inl o8)), (h_t_book, .inl (cI, 460, .inl o9)), (h_t_aside, .inl (cI, 460, .inl o10))] (some (.int o0)) := by
  refine CM_of (cc := cX10_read) (maxL := 3) (ret := (some .int)) (by decide +kernel) rfl (Nat.le_of_ble_eq_true rfl) ?_
  intro p e s m args below meth c A Q hx hb hr hml hown hts hlocks hA hK hP hD hS hE hQ hAe ls hl
  have hown : s.vm.findClass RX10 = some m.cls := hown
  have hl : lv_has ls 3 [(0, .ref h_t)] := hl
  unfold f_X10_read at hf
  refine lv_aload_n hx hb dX10_read_0 rfl (lv_at hl 0 rfl) ?_
  obtain ⟨r1, x2, x3, x4, x5, x6, y7, y8, hg9, hf⟩ := bd8_some hf
  refine CM_callV (C := RX10) (As := []) (rest := []) (wc := [(h_t, .inr (8, fX10 h_t_book h_t_images h_t_kept h_t_aside h_t_far h_t_then h_t_row h_t_mays h_t_firstRow h_t_low h_t_high t_noOlder t_thanThis t_known t_knownAge t_moved h_t_lowOne h_t_highOne h_t_ways t_met h_t_left t_hours t_greatest h_t_text t_typed t_at t_start t_token t_value h_t_verbs h_t_nums t_items)), (h_t_text, .inl (cI, 240, .inl t_text)), (h_t_nums, .inl (cI, 960, .inl t_nums)), (h_t_verbs, .inl (cI, 240, .inl t_verbs))]) (w1 := [(h_t, .inr (8, fX10 h_t_book h_t_images h_t_kept h_t_aside h_t_far h_t_then h_t_row h_t_mays h_t_firstRow h_t_low h_t_high t_noOlder t_thanThis t_known t_knownAge t_moved h_t_lowOne h_t_highOne h_t_ways t_met h_t_left t_hours t_greatest h_t_text t_typed x2 x3 x4 x5 h_t_verbs h_t_nums x6)), (h_t_text, .inl (cI, 240, .inl t_text)), (h_t_nums, .inl (cI, 960, .inl y7)), (h_t_verbs, .inl (cI, 240, .inl y8))]) (wr := [(h_t_book, .inl (cI, 460, .inl t_book)), (h_t_aside, .inl (cI, 460, .inl t_aside))]) (wo := [(h_t, .inr (8, fX10 h_t_book h_t_images h_t_kept h_t_aside h_t_far h_t_then h_t_row h_t_mays h_t_firstRow h_t_low h_t_high t_noOlder t_thanThis t_known t_knownAge t_moved h_t_lowOne h_t_highOne h_t_ways t_met h_t_left t_hours t_greatest h_t_text t_typed x2 x3 x4 x5 h_t_verbs h_t_nums x6)), (h_t_text, .inl (cI, 240, .inl t_text)), (h_t_nums, .inl (cI, 960, .inl y7)), (h_t_verbs, .inl (cI, 240, .inl y8)), (h_t_book, .inl (cI, 460, .inl t_book)), (h_t_aside, .inl (cI, 460, .inl t_aside))]) (v := (some (.int r1))) ⟨hx, hb, hml, hown, hts⟩ (c_X10_reads l dC dI cI cZ te h_t h_t_book h_t_images h_t_kept h_t_aside h_t_far h_t_then h_t_row h_t_mays h_t_firstRow h_t_low h_t_high h_t_lowOne h_t_highOne h_t_ways h_t_left h_t_text h_t_verbs h_t_nums t_noOlder t_thanThis t_known t_knownAge t_moved t_met t_hours t_greatest t_typed t_at t_start t_token t_value t_items t_text t_nums t_verbs r1 x2 x3 x4 x5 x6 y7 y8 hg9) (cwV 0 hts (gV kw_358 kw_359 kw_360 kw_159 kw_361) rfl rfl rfl (by decide +kernel) ⟨Nat.le_of_ble_eq_true rfl, Nat.le_of_ble_eq_true rfl⟩) (kS_env te) hK hP hD hS hA hE [0, 1, 2, 3] [4, 5] [2, 3, 4, 5, 0, 1] rfl rfl (by decide) (by decide) (by decide) (by decide) rfl 0 8 rfl rfl rfl rfl hl.1 rfl (Nat.le_of_ble_eq_true rfl) dX10_read_1 ⟨Nat.zero_le _, Nat.zero_le _⟩ (fun H locs hP hD hS => ?_)
  show W p l e rmX10_read s m args below meth c H locs 0 0 Q (F0 m 4 ls [.int r1])
  refine lv_if_ne (tgt := 15) hx hb dX10_read_4 (by decide) (fun c10 => ?_) (fun c10 => ?_)
  · replace hf := ifn c10 hf
    refine lv_iconst (v := (0 : Int32)) hx hb dX10_read_15 (by decide) ?_
    refine lv_istore_n (lv' := [(1, .int (0 : Int32)), (0, .ref h_t)]) hx hb dX10_read_16 rfl hl (by decide) rfl (fun ls hl => ?_)
    have L33 : ∀ (fu24 : Nat) (y21 : Nat → Int32) (x22 : Int32) (y20 : Nat → Int32), f_X10_read_L1 t_book fu24 y21 x22 = some y20 → (∀ (H : Heap) (locs : List Loc), va_P (dC, dI) vwCl [(h_t, .inr (8, fX10 h_t_book h_t_images h_t_kept h_t_aside h_t_far h_t_then h_t_row h_t_mays h_t_firstRow h_t_low h_t_high t_noOlder t_thanThis t_known t_knownAge t_moved h_t_lowOne h_t_highOne h_t_ways t_met h_t_left t_hours t_greatest h_t_text t_typed x2 x3 x4 x5 h_t_verbs h_t_nums x6)), (h_t_text, .inl (cI, 240, .inl t_text)), (h_t_nums, .inl (cI, 960, .inl y7)), (h_t_verbs, .inl (cI, 240, .inl y8)), (h_t_book, .inl (cI, 460, .inl t_book)), (h_t_aside, .inl (cI, 460, .inl y20))] H → va_D A [(h_t, .inr (8, fX10 h_t_book h_t_images h_t_kept h_t_aside h_t_far h_t_then h_t_row h_t_mays h_t_firstRow h_t_low h_t_high t_noOlder t_thanThis t_known t_knownAge t_moved h_t_lowOne h_t_highOne h_t_ways t_met h_t_left t_hours t_greatest h_t_text t_typed x2 x3 x4 x5 h_t_verbs h_t_nums x6)), (h_t_text, .inl (cI, 240, .inl t_text)), (h_t_nums, .inl (cI, 960, .inl y7)), (h_t_verbs, .inl (cI, 240, .inl y8)), (h_t_book, .inl (cI, 460, .inl t_book)), (h_t_aside, .inl (cI, 460, .inl y20))] → va_S A s.heap H locs → ∀ ls : Array Slot, lv_has ls 3 [(0, .ref h_t)] → W p l e rmX10_read s m args below meth c H locs 0 0 Q (F0 m 42 ls [])) → ∀ (H : Heap) (locs : List Loc), va_P (dC, dI) vwCl [(h_t, .inr (8, fX10 h_t_book h_t_images h_t_kept h_t_aside h_t_far h_t_then h_t_row h_t_mays h_t_firstRow h_t_low h_t_high t_noOlder t_thanThis t_known t_knownAge t_moved h_t_lowOne h_t_highOne h_t_ways t_met h_t_left t_hours t_greatest h_t_text t_typed x2 x3 x4 x5 h_t_verbs h_t_nums x6)), (h_t_text, .inl (cI, 240, .inl t_text)), (h_t_nums, .inl (cI, 960, .inl y7)), (h_t_verbs, .inl (cI, 240, .inl y8)), (h_t_book, .inl (cI, 460, .inl t_book)), (h_t_aside, .inl (cI, 460, .inl y21))] H → va_D A [(h_t, .inr (8, fX10 h_t_book h_t_images h_t_kept h_t_aside h_t_far h_t_then h_t_row h_t_mays h_t_firstRow h_t_low h_t_high t_noOlder t_thanThis t_known t_knownAge t_moved h_t_lowOne h_t_highOne h_t_ways t_met h_t_left t_hours t_greatest h_t_text t_typed x2 x3 x4 x5 h_t_verbs h_t_nums x6)), (h_t_text, .inl (cI, 240, .inl t_text)), (h_t_nums, .inl (cI, 960, .inl y7)), (h_t_verbs, .inl (cI, 240, .inl y8)), (h_t_book, .inl (cI, 460, .inl t_book)), (h_t_aside, .inl (cI, 460, .inl y21))] → va_S A s.heap H locs → ∀ ls : Array Slot, lv_has ls 3 [(0, .ref h_t), (1, .int x22)] → W p l e rmX10_read s m args below meth c H locs 0 0 Q (F0 m 17 ls []) := by
      intro fu24
      induction fu24 with
      | zero =>
        intro y21 x22 y20 hf
        unfold f_X10_read_L1 at hf
        exact none_ne hf
      | succ fu24 ih23 =>
        intro y21 x22 y20 hf hX25 H locs hP hD hS ls hl
        unfold f_X10_read_L1 at hf
        refine lv_iload_n hx hb dX10_read_17 rfl (lv_at hl 1 rfl) ?_
        refine lv_sipush (v := (460 : Int32)) hx hb dX10_read_18 (by decide) ?_
        refine lv_icmp_ge (tgt := 42) hx hb dX10_read_21 (by decide) (fun c26 => ?_) (fun c26 => ?_)
        · replace hf := ifp c26 hf
          obtain rfl := inj1 hf
          exact hX25 _ _ hP hD hS _ (lv_sub hl [0] rfl)
        · replace hf := ifn c26 hf
          refine lv_aload_n hx hb dX10_read_24 rfl (lv_at hl 0 rfl) ?_
          refine va_get (D := (dC, dI)) (ci := 8) (v := .ref h_t_aside) (C := RX10) (T := TX10) (N := 32) hx hb hts (in1 tw_X10) hown hK hP 0 rfl rfl 3 (by decide) (hts _ (List.mem_cons_of_mem _ kw_120)) (fun _ h9 => h9) rfl dX10_read_25 ?_
          refine lv_iload_n hx hb dX10_read_28 rfl (lv_at hl 1 rfl) ?_
          refine lv_aload_n hx hb dX10_read_29 rfl (lv_at hl 0 rfl) ?_
          refine va_get (D := (dC, dI)) (ci := 8) (v := .ref h_t_book) (C := RX10) (T := TX10) (N := 32) hx hb hts (in1 tw_X10) hown hK hP 0 rfl rfl 0 (by decide) (hts _ (List.mem_cons_of_mem _ kw_116)) (fun _ h9 => h9) rfl dX10_read_30 ?_
          refine lv_iload_n hx hb dX10_read_33 rfl (lv_at hl 1 rfl) ?_
          obtain ⟨g27, hf⟩ := chk_some hf
          refine va_iald hx hb hK hP 4 0 rfl rfl (gin_in g27) dX10_read_34 ?_
          obtain ⟨x28, e29, hf⟩ := nm_some hf
          refine lv_tope e29 ?_
          obtain ⟨g30, hf⟩ := chk_some hf
          obtain ⟨y31, e32, hf⟩ := nm_some hf
          refine va_iast hx hb hK hP hD hS 5 0 rfl rfl (gin_in g30) dX10_read_35 (fun H locs hP hD hS => ?_)
          have hP : va_P (dC, dI) vwCl [(h_t, .inr (8, fX10 h_t_book h_t_images h_t_kept h_t_aside h_t_far h_t_then h_t_row h_t_mays h_t_firstRow h_t_low h_t_high t_noOlder t_thanThis t_known t_knownAge t_moved h_t_lowOne h_t_highOne h_t_ways t_met h_t_left t_hours t_greatest h_t_text t_typed x2 x3 x4 x5 h_t_verbs h_t_nums x6)), (h_t_text, .inl (cI, 240, .inl t_text)), (h_t_nums, .inl (cI, 960, .inl y7)), (h_t_verbs, .inl (cI, 240, .inl y8)), (h_t_book, .inl (cI, 460, .inl t_book)), (h_t_aside, .inl (cI, 460, .inl y31))] H := by rw [e32]; exact hP
          have hD : va_D A [(h_t, .inr (8, fX10 h_t_book h_t_images h_t_kept h_t_aside h_t_far h_t_then h_t_row h_t_mays h_t_firstRow h_t_low h_t_high t_noOlder t_thanThis t_known t_knownAge t_moved h_t_lowOne h_t_highOne h_t_ways t_met h_t_left t_hours t_greatest h_t_text t_typed x2 x3 x4 x5 h_t_verbs h_t_nums x6)), (h_t_text, .inl (cI, 240, .inl t_text)), (h_t_nums, .inl (cI, 960, .inl y7)), (h_t_verbs, .inl (cI, 240, .inl y8)), (h_t_book, .inl (cI, 460, .inl t_book)), (h_t_aside, .inl (cI, 460, .inl y31))] := by rw [e32]; exact hD
          refine lv_iinc (v := (x22 + (1 : Int32))) (lv' := [(1, .int (x22 + (1 : Int32))), (0, .ref h_t)]) hx hb dX10_read_36 hl (k := 1) rfl rfl (by decide) rfl (fun ls hl => ?_)
          refine lv_goto (tgt := 17) hx hb dX10_read_39 (by decide) ?_
          exact ih23 _ _ _ hf hX25 _ _ hP hD hS _ (lv_sub hl [1, 0] rfl)
    obtain ⟨y20, hg, hf⟩ := bd1_some hf
    refine L33 FU _ _ _ hg ?_ _ _ hP hD hS _ (lv_sub hl [1, 0] rfl)
    · intro H locs hP hD hS ls hl
      refine lv_iconst (v := (0 : Int32)) hx hb dX10_read_42 (by decide) ?_
      refine lv_istore_n (lv' := [(1, .int (0 : Int32)), (0, .ref h_t)]) hx hb dX10_read_43 rfl hl (by decide) rfl (fun ls hl => ?_)
      have L55 : ∀ (fu47 : Nat) (y44 : Nat → Int32) (x45 : Int32) (q43 : Nat) (y41 : Nat → Int32) (x42 : Int32), f_X10_read_L2 x6 y7 y8 fu47 y44 x45 = some (q43, y41, x42) → (q43 = 0 → ∀ (H : Heap) (locs : List Loc), va_P (dC, dI) vwCl [(h_t, .inr (8, fX10 h_t_book h_t_images h_t_kept h_t_aside h_t_far h_t_then h_t_row h_t_mays h_t_firstRow h_t_low h_t_high t_noOlder t_thanThis t_known t_knownAge t_moved h_t_lowOne h_t_highOne h_t_ways t_met h_t_left t_hours t_greatest h_t_text t_typed x2 x3 x4 x5 h_t_verbs h_t_nums x6)), (h_t_text, .inl (cI, 240, .inl t_text)), (h_t_nums, .inl (cI, 960, .inl y7)), (h_t_verbs, .inl (cI, 240, .inl y8)), (h_t_book, .inl (cI, 460, .inl y41)), (h_t_aside, .inl (cI, 460, .inl y20))] H → va_D A [(h_t, .inr (8, fX10 h_t_book h_t_images h_t_kept h_t_aside h_t_far h_t_then h_t_row h_t_mays h_t_firstRow h_t_low h_t_high t_noOlder t_thanThis t_known t_knownAge t_moved h_t_lowOne h_t_highOne h_t_ways t_met h_t_left t_hours t_greatest h_t_text t_typed x2 x3 x4 x5 h_t_verbs h_t_nums x6)), (h_t_text, .inl (cI, 240, .inl t_text)), (h_t_nums, .inl (cI, 960, .inl y7)), (h_t_verbs, .inl (cI, 240, .inl y8)), (h_t_book, .inl (cI, 460, .inl y41)), (h_t_aside, .inl (cI, 460, .inl y20))] → va_S A s.heap H locs → ∀ ls : Array Slot, lv_has ls 3 [(0, .ref h_t), (1, .int x42)] → W p l e rmX10_read s m args below meth c H locs 0 0 Q (F0 m 60 ls [])) → (q43 = 1 → ∀ (H : Heap) (locs : List Loc), va_P (dC, dI) vwCl [(h_t, .inr (8, fX10 h_t_book h_t_images h_t_kept h_t_aside h_t_far h_t_then h_t_row h_t_mays h_t_firstRow h_t_low h_t_high t_noOlder t_thanThis t_known t_knownAge t_moved h_t_lowOne h_t_highOne h_t_ways t_met h_t_left t_hours t_greatest h_t_text t_typed x2 x3 x4 x5 h_t_verbs h_t_nums x6)), (h_t_text, .inl (cI, 240, .inl t_text)), (h_t_nums, .inl (cI, 960, .inl y7)), (h_t_verbs, .inl (cI, 240, .inl y8)), (h_t_book, .inl (cI, 460, .inl y41)), (h_t_aside, .inl (cI, 460, .inl y20))] H → va_D A [(h_t, .inr (8, fX10 h_t_book h_t_images h_t_kept h_t_aside h_t_far h_t_then h_t_row h_t_mays h_t_firstRow h_t_low h_t_high t_noOlder t_thanThis t_known t_knownAge t_moved h_t_lowOne h_t_highOne h_t_ways t_met h_t_left t_hours t_greatest h_t_text t_typed x2 x3 x4 x5 h_t_verbs h_t_nums x6)), (h_t_text, .inl (cI, 240, .inl t_text)), (h_t_nums, .inl (cI, 960, .inl y7)), (h_t_verbs, .inl (cI, 240, .inl y8)), (h_t_book, .inl (cI, 460, .inl y41)), (h_t_aside, .inl (cI, 460, .inl y20))] → va_S A s.heap H locs → ∀ ls : Array Slot, lv_has ls 3 [(0, .ref h_t)] → W p l e rmX10_read s m args below meth c H locs 0 0 Q (F0 m 99 ls [])) → ∀ (H : Heap) (locs : List Loc), va_P (dC, dI) vwCl [(h_t, .inr (8, fX10 h_t_book h_t_images h_t_kept h_t_aside h_t_far h_t_then h_t_row h_t_mays h_t_firstRow h_t_low h_t_high t_noOlder t_thanThis t_known t_knownAge t_moved h_t_lowOne h_t_highOne h_t_ways t_met h_t_left t_hours t_greatest h_t_text t_typed x2 x3 x4 x5 h_t_verbs h_t_nums x6)), (h_t_text, .inl (cI, 240, .inl t_text)), (h_t_nums, .inl (cI, 960, .inl y7)), (h_t_verbs, .inl (cI, 240, .inl y8)), (h_t_book, .inl (cI, 460, .inl y44)), (h_t_aside, .inl (cI, 460, .inl y20))] H → va_D A [(h_t, .inr (8, fX10 h_t_book h_t_images h_t_kept h_t_aside h_t_far h_t_then h_t_row h_t_mays h_t_firstRow h_t_low h_t_high t_noOlder t_thanThis t_known t_knownAge t_moved h_t_lowOne h_t_highOne h_t_ways t_met h_t_left t_hours t_greatest h_t_text t_typed x2 x3 x4 x5 h_t_verbs h_t_nums x6)), (h_t_text, .inl (cI, 240, .inl t_text)), (h_t_nums, .inl (cI, 960, .inl y7)), (h_t_verbs, .inl (cI, 240, .inl y8)), (h_t_book, .inl (cI, 460, .inl y44)), (h_t_aside, .inl (cI, 460, .inl y20))] → va_S A s.heap H locs → ∀ ls : Array Slot, lv_has ls 3 [(0, .ref h_t), (1, .int x45)] → W p l e rmX10_read s m args below meth c H locs 0 0 Q (F0 m 44 ls []) := by
        intro fu47
        induction fu47 with
        | zero =>
          intro y44 x45 q43 y41 x42 hf
          unfold f_X10_read_L2 at hf
          exact none_ne hf
        | succ fu47 ih46 =>
          intro y44 x45 q43 y41 x42 hf hX48 hX49 H locs hP hD hS ls hl
          unfold f_X10_read_L2 at hf
          refine lv_iload_n hx hb dX10_read_44 rfl (lv_at hl 1 rfl) ?_
          refine lv_aload_n hx hb dX10_read_45 rfl (lv_at hl 0 rfl) ?_
          refine va_get (D := (dC, dI)) (ci := 8) (v := .int x6) (C := RX10) (T := TX10) (N := 32) hx hb hts (in1 tw_X10) hown hK hP 0 rfl rfl 31 (by decide) (hts _ (List.mem_cons_of_mem _ kw_350)) (fun _ h9 => h9) rfl dX10_read_46 ?_
          refine lv_icmp_ge (tgt := 99) hx hb dX10_read_49 (by decide) (fun c50 => ?_) (fun c50 => ?_)
          · replace hf := ifp c50 hf
            obtain ⟨rfl, rfl, rfl⟩ := inj3 hf
            exact hX49 rfl _ _ hP hD hS _ (lv_sub hl [0] rfl)
          · replace hf := ifn c50 hf
            refine lv_aload_n hx hb dX10_read_52 rfl (lv_at hl 0 rfl) ?_
            refine lv_iload_n hx hb dX10_read_53 rfl (lv_at hl 1 rfl) ?_
            obtain ⟨r51, y52, hg53, hf⟩ := bd2_some hf
            refine CM_callV (C := RX10) (As := [.int x45]) (rest := []) (wc := [(h_t, .inr (8, fX10 h_t_book h_t_images h_t_kept h_t_aside h_t_far h_t_then h_t_row h_t_mays h_t_firstRow h_t_low h_t_high t_noOlder t_thanThis t_known t_knownAge t_moved h_t_lowOne h_t_highOne h_t_ways t_met h_t_left t_hours t_greatest h_t_text t_typed x2 x3 x4 x5 h_t_verbs h_t_nums x6)), (h_t_nums, .inl (cI, 960, .inl y7)), (h_t_verbs, .inl (cI, 240, .inl y8)), (h_t_book, .inl (cI, 460, .inl y44))]) (w1 := [(h_t, .inr (8, fX10 h_t_book h_t_images h_t_kept h_t_aside h_t_far h_t_then h_t_row h_t_mays h_t_firstRow h_t_low h_t_high t_noOlder t_thanThis t_known t_knownAge t_moved h_t_lowOne h_t_highOne h_t_ways t_met h_t_left t_hours t_greatest h_t_text t_typed x2 x3 x4 x5 h_t_verbs h_t_nums x6)), (h_t_nums, .inl (cI, 960, .inl y7)), (h_t_verbs, .inl (cI, 240, .inl y8)), (h_t_book, .inl (cI, 460, .inl y52))]) (wr := [(h_t_text, .inl (cI, 240, .inl t_text)), (h_t_aside, .inl (cI, 460, .inl y20))]) (wo := [(h_t, .inr (8, fX10 h_t_book h_t_images h_t_kept h_t_aside h_t_far h_t_then h_t_row h_t_mays h_t_firstRow h_t_low h_t_high t_noOlder t_thanThis t_known t_knownAge t_moved h_t_lowOne h_t_highOne h_t_ways t_met h_t_left t_hours t_greatest h_t_text t_typed x2 x3 x4 x5 h_t_verbs h_t_nums x6)), (h_t_text, .inl (cI, 240, .inl t_text)), (h_t_nums, .inl (cI, 960, .inl y7)), (h_t_verbs, .inl (cI, 240, .inl y8)), (h_t_book, .inl (cI, 460, .inl y52)), (h_t_aside, .inl (cI, 460, .inl y20))]) (v := (some (.int r51))) ⟨hx, hb, hml, hown, hts⟩ (c_X10_tellsItem l dC dI cI cZ te h_t h_t_book h_t_images h_t_kept h_t_aside h_t_far h_t_then h_t_row h_t_mays h_t_firstRow h_t_low h_t_high h_t_lowOne h_t_highOne h_t_ways h_t_left h_t_text h_t_verbs h_t_nums t_noOlder t_thanThis t_known t_knownAge t_moved t_met t_hours t_greatest t_typed x2 x3 x4 x5 x6 y7 y8 y44 x45 r51 y52 hg53) (cwV 1 hts (gV kw_386 kw_387 kw_388 kw_159 kw_389) rfl rfl rfl (by decide +kernel) ⟨Nat.le_of_ble_eq_true rfl, Nat.le_of_ble_eq_true rfl⟩) (kS_env te) hK hP hD hS hA hE [0, 2, 3, 4] [1, 5] [2, 0, 3, 4, 5, 1] rfl rfl (by decide) (by decide) (by decide) (by decide) rfl 0 8 rfl rfl rfl rfl hl.1 rfl (Nat.le_of_ble_eq_true rfl) dX10_read_54 ⟨Nat.zero_le _, Nat.zero_le _⟩ (fun H locs hP hD hS => ?_)
            show W p l e rmX10_read s m args below meth c H locs 0 0 Q (F0 m 57 ls [.int r51])
            refine lv_if_ge (tgt := 93) hx hb dX10_read_57 (by decide) (fun c54 => ?_) (fun c54 => ?_)
            · replace hf := ifp c54 hf
              refine lv_iinc (v := (x45 + (1 : Int32))) (lv' := [(1, .int (x45 + (1 : Int32))), (0, .ref h_t)]) hx hb dX10_read_93 hl (k := 1) rfl rfl (by decide) rfl (fun ls hl => ?_)
              refine lv_goto (tgt := 44) hx hb dX10_read_96 (by decide) ?_
              exact ih46 _ _ _ _ _ hf hX48 hX49 _ _ hP hD hS _ (lv_sub hl [1, 0] rfl)
            · replace hf := ifn c54 hf
              obtain ⟨rfl, rfl, rfl⟩ := inj3 hf
              exact hX48 rfl _ _ hP hD hS _ (lv_sub hl [0, 1] rfl)
      obtain ⟨q43, y41, x42, hg, hf⟩ := bd3_some hf
      refine L55 FU _ _ _ _ _ hg ?_ ?_ _ _ hP hD hS _ (lv_sub hl [1, 0] rfl)
      · intro hq
        subst hq
        replace hf := ifp rfl hf
        intro H locs hP hD hS ls hl
        refine lv_iconst (v := (0 : Int32)) hx hb dX10_read_60 (by decide) ?_
        refine lv_istore_n (lv' := [(2, .int (0 : Int32)), (0, .ref h_t), (1, .int x42)]) hx hb dX10_read_61 rfl hl (by decide) rfl (fun ls hl => ?_)
        have L78 : ∀ (fu69 : Nat) (y66 : Nat → Int32) (x67 : Int32) (y65 : Nat → Int32), f_X10_read_L3 y20 fu69 y66 x67 = some y65 → (∀ (H : Heap) (locs : List Loc), va_P (dC, dI) vwCl [(h_t, .inr (8, fX10 h_t_book h_t_images h_t_kept h_t_aside h_t_far h_t_then h_t_row h_t_mays h_t_firstRow h_t_low h_t_high t_noOlder t_thanThis t_known t_knownAge t_moved h_t_lowOne h_t_highOne h_t_ways t_met h_t_left t_hours t_greatest h_t_text t_typed x2 x3 x4 x5 h_t_verbs h_t_nums x6)), (h_t_text, .inl (cI, 240, .inl t_text)), (h_t_nums, .inl (cI, 960, .inl y7)), (h_t_verbs, .inl (cI, 240, .inl y8)), (h_t_book, .inl (cI, 460, .inl y65)), (h_t_aside, .inl (cI, 460, .inl y20))] H → va_D A [(h_t, .inr (8, fX10 h_t_book h_t_images h_t_kept h_t_aside h_t_far h_t_then h_t_row h_t_mays h_t_firstRow h_t_low h_t_high t_noOlder t_thanThis t_known t_knownAge t_moved h_t_lowOne h_t_highOne h_t_ways t_met h_t_left t_hours t_greatest h_t_text t_typed x2 x3 x4 x5 h_t_verbs h_t_nums x6)), (h_t_text, .inl (cI, 240, .inl t_text)), (h_t_nums, .inl (cI, 960, .inl y7)), (h_t_verbs, .inl (cI, 240, .inl y8)), (h_t_book, .inl (cI, 460, .inl y65)), (h_t_aside, .inl (cI, 460, .inl y20))] → va_S A s.heap H locs → ∀ ls : Array Slot, lv_has ls 3 [(1, .int x42)] → W p l e rmX10_read s m args below meth c H locs 0 0 Q (F0 m 87 ls [])) → ∀ (H : Heap) (locs : List Loc), va_P (dC, dI) vwCl [(h_t, .inr (8, fX10 h_t_book h_t_images h_t_kept h_t_aside h_t_far h_t_then h_t_row h_t_mays h_t_firstRow h_t_low h_t_high t_noOlder t_thanThis t_known t_knownAge t_moved h_t_lowOne h_t_highOne h_t_ways t_met h_t_left t_hours t_greatest h_t_text t_typed x2 x3 x4 x5 h_t_verbs h_t_nums x6)), (h_t_text, .inl (cI, 240, .inl t_text)), (h_t_nums, .inl (cI, 960, .inl y7)), (h_t_verbs, .inl (cI, 240, .inl y8)), (h_t_book, .inl (cI, 460, .inl y66)), (h_t_aside, .inl (cI, 460, .inl y20))] H → va_D A [(h_t, .inr (8, fX10 h_t_book h_t_images h_t_kept h_t_aside h_t_far h_t_then h_t_row h_t_mays h_t_firstRow h_t_low h_t_high t_noOlder t_thanThis t_known t_knownAge t_moved h_t_lowOne h_t_highOne h_t_ways t_met h_t_left t_hours t_greatest h_t_text t_typed x2 x3 x4 x5 h_t_verbs h_t_nums x6)), (h_t_text, .inl (cI, 240, .inl t_text)), (h_t_nums, .inl (cI, 960, .inl y7)), (h_t_verbs, .inl (cI, 240, .inl y8)), (h_t_book, .inl (cI, 460, .inl y66)), (h_t_aside, .inl (cI, 460, .inl y20))] → va_S A s.heap H locs → ∀ ls : Array Slot, lv_has ls 3 [(0, .ref h_t), (1, .int x42), (2, .int x67)] → W p l e rmX10_read s m args below meth c H locs 0 0 Q (F0 m 62 ls []) := by
          intro fu69
          induction fu69 with
          | zero =>
            intro y66 x67 y65 hf
            unfold f_X10_read_L3 at hf
            exact none_ne hf
          | succ fu69 ih68 =>
            intro y66 x67 y65 hf hX70 H locs hP hD hS ls hl
            unfold f_X10_read_L3 at hf
            refine lv_iload_n hx hb dX10_read_62 rfl (lv_at hl 2 rfl) ?_
            refine lv_sipush (v := (460 : Int32)) hx hb dX10_read_63 (by decide) ?_
            refine lv_icmp_ge (tgt := 87) hx hb dX10_read_66 (by decide) (fun c71 => ?_) (fun c71 => ?_)
            · replace hf := ifp c71 hf
              obtain rfl := inj1 hf
              exact hX70 _ _ hP hD hS _ (lv_sub hl [1] rfl)
            · replace hf := ifn c71 hf
              refine lv_aload_n hx hb dX10_read_69 rfl (lv_at hl 0 rfl) ?_
              refine va_get (D := (dC, dI)) (ci := 8) (v := .ref h_t_book) (C := RX10) (T := TX10) (N := 32) hx hb hts (in1 tw_X10) hown hK hP 0 rfl rfl 0 (by decide) (hts _ (List.mem_cons_of_mem _ kw_116)) (fun _ h9 => h9) rfl dX10_read_70 ?_
              refine lv_iload_n hx hb dX10_read_73 rfl (lv_at hl 2 rfl) ?_
              refine lv_aload_n hx hb dX10_read_74 rfl (lv_at hl 0 rfl) ?_
              refine va_get (D := (dC, dI)) (ci := 8) (v := .ref h_t_aside) (C := RX10) (T := TX10) (N := 32) hx hb hts (in1 tw_X10) hown hK hP 0 rfl rfl 3 (by decide) (hts _ (List.mem_cons_of_mem _ kw_120)) (fun _ h9 => h9) rfl dX10_read_75 ?_
              refine lv_iload_n hx hb dX10_read_78 rfl (lv_at hl 2 rfl) ?_
              obtain ⟨g72, hf⟩ := chk_some hf
              refine va_iald hx hb hK hP 5 0 rfl rfl (gin_in g72) dX10_read_79 ?_
              obtain ⟨x73, e74, hf⟩ := nm_some hf
              refine lv_tope e74 ?_
              obtain ⟨g75, hf⟩ := chk_some hf
              obtain ⟨y76, e77, hf⟩ := nm_some hf
              refine va_iast hx hb hK hP hD hS 4 0 rfl rfl (gin_in g75) dX10_read_80 (fun H locs hP hD hS => ?_)
              have hP : va_P (dC, dI) vwCl [(h_t, .inr (8, fX10 h_t_book h_t_images h_t_kept h_t_aside h_t_far h_t_then h_t_row h_t_mays h_t_firstRow h_t_low h_t_high t_noOlder t_thanThis t_known t_knownAge t_moved h_t_lowOne h_t_highOne h_t_ways t_met h_t_left t_hours t_greatest h_t_text t_typed x2 x3 x4 x5 h_t_verbs h_t_nums x6)), (h_t_text, .inl (cI, 240, .inl t_text)), (h_t_nums, .inl (cI, 960, .inl y7)), (h_t_verbs, .inl (cI, 240, .inl y8)), (h_t_book, .inl (cI, 460, .inl y76)), (h_t_aside, .inl (cI, 460, .inl y20))] H := by rw [e77]; exact hP
              have hD : va_D A [(h_t, .inr (8, fX10 h_t_book h_t_images h_t_kept h_t_aside h_t_far h_t_then h_t_row h_t_mays h_t_firstRow h_t_low h_t_high t_noOlder t_thanThis t_known t_knownAge t_moved h_t_lowOne h_t_highOne h_t_ways t_met h_t_left t_hours t_greatest h_t_text t_typed x2 x3 x4 x5 h_t_verbs h_t_nums x6)), (h_t_text, .inl (cI, 240, .inl t_text)), (h_t_nums, .inl (cI, 960, .inl y7)), (h_t_verbs, .inl (cI, 240, .inl y8)), (h_t_book, .inl (cI, 460, .inl y76)), (h_t_aside, .inl (cI, 460, .inl y20))] := by rw [e77]; exact hD
              refine lv_iinc (v := (x67 + (1 : Int32))) (lv' := [(2, .int (x67 + (1 : Int32))), (0, .ref h_t), (1, .int x42)]) hx hb dX10_read_81 hl (k := 2) rfl rfl (by decide) rfl (fun ls hl => ?_)
              refine lv_goto (tgt := 62) hx hb dX10_read_84 (by decide) ?_
              exact ih68 _ _ _ hf hX70 _ _ hP hD hS _ (lv_sub hl [1, 2, 0] rfl)
        obtain ⟨y65, hg, hf⟩ := bd1_some hf
        refine L78 FU _ _ _ hg ?_ _ _ hP hD hS _ (lv_sub hl [1, 2, 0] rfl)
        · intro H locs hP hD hS ls hl
          refine lv_sipush (v := (-1000 : Int32)) hx hb dX10_read_87 (by decide) ?_
          refine lv_iload_n hx hb dX10_read_90 rfl (lv_at hl 0 rfl) ?_
          refine lv_isub hx hb dX10_read_91 ?_
          obtain ⟨rfl, rfl, rfl, rfl, rfl, rfl, rfl, rfl, rfl, rfl, rfl⟩ := inj11 hf
          subst hQ
          exact CM_iret hx hb hr rfl hlocks hAe hP hD hS dX10_read_92
      · intro hq
        subst hq
        replace hf := ifn (by decide) hf
        intro H locs hP hD hS ls hl
        refine lv_aload_n hx hb dX10_read_99 rfl (lv_at hl 0 rfl) ?_
        refine lv_iconst (v := (0 : Int32)) hx hb dX10_read_100 (by decide) ?_
        refine va_put (D := (dC, dI)) (ci := 8) (v := .int (0 : Int32)) (ty := tyX10 24) (C := RX10) (T := TX10) (N := 32) hx hb hts (in1 tw_X10) tyX10 tyX10_ok nmX10 hown hK hP hD hS 0 rfl rfl 24 (by decide) (hts _ (List.mem_cons_of_mem _ kw_323)) (fun _ h9 => h9) rfl (tyX10_ok 24 (by decide)) rfl rfl (Nat.le_of_ble_eq_true rfl) dX10_read_101 (fun H locs hP hD hS => ?_)
        have hP : va_P (dC, dI) vwCl [(h_t, .inr (8, fX10 h_t_book h_t_images h_t_kept h_t_aside h_t_far h_t_then h_t_row h_t_mays h_t_firstRow h_t_low h_t_high t_noOlder t_thanThis t_known t_knownAge t_moved h_t_lowOne h_t_highOne h_t_ways t_met h_t_left t_hours t_greatest h_t_text (0 : Int32) x2 x3 x4 x5 h_t_verbs h_t_nums x6)), (h_t_text, .inl (cI, 240, .inl t_text)), (h_t_nums, .inl (cI, 960, .inl y7)), (h_t_verbs, .inl (cI, 240, .inl y8)), (h_t_book, .inl (cI, 460, .inl y41)), (h_t_aside, .inl (cI, 460, .inl y20))] H := hP
        have hD : va_D A [(h_t, .inr (8, fX10 h_t_book h_t_images h_t_kept h_t_aside h_t_far h_t_then h_t_row h_t_mays h_t_firstRow h_t_low h_t_high t_noOlder t_thanThis t_known t_knownAge t_moved h_t_lowOne h_t_highOne h_t_ways t_met h_t_left t_hours t_greatest h_t_text (0 : Int32) x2 x3 x4 x5 h_t_verbs h_t_nums x6)), (h_t_text, .inl (cI, 240, .inl t_text)), (h_t_nums, .inl (cI, 960, .inl y7)), (h_t_verbs, .inl (cI, 240, .inl y8)), (h_t_book, .inl (cI, 460, .inl y41)), (h_t_aside, .inl (cI, 460, .inl y20))] := hD
        refine lv_aload_n hx hb dX10_read_104 rfl (lv_at hl 0 rfl) ?_
        refine va_get (D := (dC, dI)) (ci := 8) (v := .int x6) (C := RX10) (T := TX10) (N := 32) hx hb hts (in1 tw_X10) hown hK hP 0 rfl rfl 31 (by decide) (hts _ (List.mem_cons_of_mem _ kw_350)) (fun _ h9 => h9) rfl dX10_read_105 ?_
        obtain ⟨rfl, rfl, rfl, rfl, rfl, rfl, rfl, rfl, rfl, rfl, rfl⟩ := inj11 hf
        subst hQ
        exact CM_iret hx hb hr rfl hlocks hAe hP hD hS dX10_read_108
  · replace hf := ifp c10 hf
    refine lv_bipush (v := (-10 : Int32)) hx hb dX10_read_7 (by decide) ?_
    refine lv_aload_n hx hb dX10_read_9 rfl (lv_at hl 0 rfl) ?_
    refine va_get (D := (dC, dI)) (ci := 8) (v := .int x3) (C := RX10) (T := TX10) (N := 32) hx hb hts (in1 tw_X10) hown hK hP 0 rfl rfl 26 (by decide) (hts _ (List.mem_cons_of_mem _ kw_342)) (fun _ h9 => h9) rfl dX10_read_10 ?_
    refine lv_isub hx hb dX10_read_13 ?_
    obtain ⟨rfl, rfl, rfl, rfl, rfl, rfl, rfl, rfl, rfl, rfl, rfl⟩ := inj11 hf
    subst hQ
    exact CM_iret hx hb hr rfl hlocks hAe hP hD hS dX10_read_14
def rmX10_image : Room := { frames := 1, cells := 0, slots := 0, locals := 25 }
abbrev wqX10_image : List Cond := Cond.code yX10_image cX10_image 3 (some .int) :: tG
set_option maxHeartbeats 4000000 in
set_option maxRecDepth 100000 in
theorem c_X10_image (l : Launch) (dC : Nat → ClassId) (dI : Nat → Nat → Nat) (cI cZ : ClassId) (te : Nat → Nat) (h_t : Nat) (h_t_book : Nat) (h_t_images : Nat) (h_t_kept : Nat) (h_t_aside : Nat) (h_t_far : Nat) (h_t_then : Nat) (h_t_row : Nat) (h_t_mays : Nat) (h_t_firstRow : Nat) (h_t_low : Nat) (h_t_high : Nat) (h_t_lowOne : Nat) (h_t_highOne : Nat) (h_t_ways : Nat) (h_t_left : Nat) (h_t_text : Nat) (h_t_verbs : Nat) (h_t_nums : Nat) (t_noOlder : Int32) (t_thanThis : Int32) (t_known : Int32) (t_knownAge : Int32) (t_moved : Int32) (t_met : Int32) (t_hours : Int32) (t_greatest : Int32) (t_typed : Int32) (t_at : Int32) (t_start : Int32) (t_token : Int32) (t_value : Int32) (t_items : Int32) (t_book : Nat → Int32) (t_images : Nat → Int32) (t_kept : Nat → Int32) (p1 : Int32) (o0 : Int32) (o1 : Nat → Int32) (o2 : Nat → Int32) (hf : f_X10_image t_book t_images t_kept p1 = some (o0, o1, o2)) : CM l yX10_image wqX10_image rmX10_image (kS te) dC dI cI cZ [.ref h_t, .int p1] [(h_t, .inr (8, fX10 h_t_book h_t_images h_t_kept h_t_aside h_t_far h_t_then h_t_row h_t_mays h_t_firstRow h_t_low h_t_high t_noOlder t_thanThis t_known t_knownAge t_moved h_t_lowOne h_t_highOne h_t_ways t_met h_t_left t_hours t_greatest h_t_text t_typed t_at t_start t_token t_value h_t_verbs h_t_nums t_items)), (h_t_book, .inl (cI, 460, .inl t_book)), (h_t_images, .inl (cI, 920, .inl t_images)), (h_t_kept, .inl (cZ, 2, .inl t_kept))] [(h_t, .inr (8, fX10 h_t_book h_t_images h_t_kept h_t_aside h_t_far h_t_then h_t_row h_t_mays h_t_firstRow h_t_low h_t_high t_noOlder t_thanThis t_known t_knownAge t_moved h_t_lowOne h_t_highOne h_t_ways t_met h_t_left t_hours t_greatest h_t_text t_typed t_at t_start t_token t_value h_t_verbs h_t_nums t_items)), (h_t_book, .inl (cI, 460, .inl t_book)), (h_t_images, .inl (cI, 920, .inl o1)), (h_t_kept, .inl (cZ, 2, .inl o2))] (some (.int o0)) := by
  refine CM_of (cc := cX10_image) (maxL := 3) (ret := (some .int)) (by decide +kernel) rfl (Nat.le_of_ble_eq_true rfl) ?_
  intro p e s m args below meth c A Q hx hb hr hml hown hts hlocks hA hK hP hD hS hE hQ hAe ls hl
  have hown : s.vm.findClass RX10 = some m.cls := hown
  have hl : lv_has ls 3 [(0, .ref h_t), (1, .int p1)] := hl
  unfold f_X10_image at hf
  refine lv_iload_n hx hb dX10_image_0 rfl (lv_at hl 1 rfl) ?_
  refine lv_i2l hx hb dX10_image_1 rfl ?_
  refine lv_lconst (v := (0 : Int64)) hx hb dX10_image_2 (by decide) ?_
  refine lv_lconst (v := (1 : Int64)) hx hb dX10_image_3 (by decide) ?_
  obtain ⟨r1, hg2, hf⟩ := bd1_some hf
  refine CM_callS (As := [.long p1.toInt64, .long (0 : Int64), .long (1 : Int64)]) (rest := []) (wc := []) (w1 := []) (wr := [(h_t, .inr (8, fX10 h_t_book h_t_images h_t_kept h_t_aside h_t_far h_t_then h_t_row h_t_mays h_t_firstRow h_t_low h_t_high t_noOlder t_thanThis t_known t_knownAge t_moved h_t_lowOne h_t_highOne h_t_ways t_met h_t_left t_hours t_greatest h_t_text t_typed t_at t_start t_token t_value h_t_verbs h_t_nums t_items)), (h_t_book, .inl (cI, 460, .inl t_book)), (h_t_images, .inl (cI, 920, .inl t_images)), (h_t_kept, .inl (cZ, 2, .inl t_kept))]) (wo := [(h_t, .inr (8, fX10 h_t_book h_t_images h_t_kept h_t_aside h_t_far h_t_then h_t_row h_t_mays h_t_firstRow h_t_low h_t_high t_noOlder t_thanThis t_known t_knownAge t_moved h_t_lowOne h_t_highOne h_t_ways t_met h_t_left t_hours t_greatest h_t_text t_typed t_at t_start t_token t_value h_t_verbs h_t_nums t_items)), (h_t_book, .inl (cI, 460, .inl t_book)), (h_t_images, .inl (cI, 920, .inl t_images)), (h_t_kept, .inl (cZ, 2, .inl t_kept))]) (v := (some (.int r1))) ⟨hx, hb, hml, hown, hts⟩ (c_X10_in l dC dI cI cZ te (p1.toInt64) (0 : Int64) (1 : Int64) r1 hg2) (va_cwS 3 hts (gS kw_157 kw_158 kw_159 kw_160) rfl rfl rfl (by decide +kernel) ⟨Nat.le_of_ble_eq_true rfl, Nat.le_of_ble_eq_true rfl⟩) (kS_env te) hK hP hD hS hA hE [] [0, 1, 2, 3] [0, 1, 2, 3] rfl rfl (by decide) (by decide) (by decide) (by decide) rfl rfl hl.1 rfl (Nat.le_of_ble_eq_true rfl) dX10_image_4 ⟨Nat.zero_le _, Nat.zero_le _⟩ (fun H locs hP hD hS => ?_)
  show W p l e rmX10_image s m args below meth c H locs 0 0 Q (F0 m 7 ls [.int r1])
  refine lv_if_ne (tgt := 13) hx hb dX10_image_7 (by decide) (fun c3 => ?_) (fun c3 => ?_)
  · replace hf := ifn c3 hf
    refine lv_iconst (v := (0 : Int32)) hx hb dX10_image_13 (by decide) ?_
    refine lv_istore_n (lv' := [(2, .int (0 : Int32)), (0, .ref h_t), (1, .int p1)]) hx hb dX10_image_14 rfl hl (by decide) rfl (fun ls hl => ?_)
    have L26 : ∀ (fu17 : Nat) (y14 : Nat → Int32) (x15 : Int32) (y13 : Nat → Int32), f_X10_image_L1 t_book p1 fu17 y14 x15 = some y13 → (∀ (H : Heap) (locs : List Loc), va_P (dC, dI) vwCl [(h_t, .inr (8, fX10 h_t_book h_t_images h_t_kept h_t_aside h_t_far h_t_then h_t_row h_t_mays h_t_firstRow h_t_low h_t_high t_noOlder t_thanThis t_known t_knownAge t_moved h_t_lowOne h_t_highOne h_t_ways t_met h_t_left t_hours t_greatest h_t_text t_typed t_at t_start t_token t_value h_t_verbs h_t_nums t_items)), (h_t_book, .inl (cI, 460, .inl t_book)), (h_t_images, .inl (cI, 920, .inl y13)), (h_t_kept, .inl (cZ, 2, .inl t_kept))] H → va_D A [(h_t, .inr (8, fX10 h_t_book h_t_images h_t_kept h_t_aside h_t_far h_t_then h_t_row h_t_mays h_t_firstRow h_t_low h_t_high t_noOlder t_thanThis t_known t_knownAge t_moved h_t_lowOne h_t_highOne h_t_ways t_met h_t_left t_hours t_greatest h_t_text t_typed t_at t_start t_token t_value h_t_verbs h_t_nums t_items)), (h_t_book, .inl (cI, 460, .inl t_book)), (h_t_images, .inl (cI, 920, .inl y13)), (h_t_kept, .inl (cZ, 2, .inl t_kept))] → va_S A s.heap H locs → ∀ ls : Array Slot, lv_has ls 3 [(0, .ref h_t), (1, .int p1)] → W p l e rmX10_image s m args below meth c H locs 0 0 Q (F0 m 46 ls [])) → ∀ (H : Heap) (locs : List Loc), va_P (dC, dI) vwCl [(h_t, .inr (8, fX10 h_t_book h_t_images h_t_kept h_t_aside h_t_far h_t_then h_t_row h_t_mays h_t_firstRow h_t_low h_t_high t_noOlder t_thanThis t_known t_knownAge t_moved h_t_lowOne h_t_highOne h_t_ways t_met h_t_left t_hours t_greatest h_t_text t_typed t_at t_start t_token t_value h_t_verbs h_t_nums t_items)), (h_t_book, .inl (cI, 460, .inl t_book)), (h_t_images, .inl (cI, 920, .inl y14)), (h_t_kept, .inl (cZ, 2, .inl t_kept))] H → va_D A [(h_t, .inr (8, fX10 h_t_book h_t_images h_t_kept h_t_aside h_t_far h_t_then h_t_row h_t_mays h_t_firstRow h_t_low h_t_high t_noOlder t_thanThis t_known t_knownAge t_moved h_t_lowOne h_t_highOne h_t_ways t_met h_t_left t_hours t_greatest h_t_text t_typed t_at t_start t_token t_value h_t_verbs h_t_nums t_items)), (h_t_book, .inl (cI, 460, .inl t_book)), (h_t_images, .inl (cI, 920, .inl y14)), (h_t_kept, .inl (cZ, 2, .inl t_kept))] → va_S A s.heap H locs → ∀ ls : Array Slot, lv_has ls 3 [(0, .ref h_t), (1, .int p1), (2, .int x15)] → W p l e rmX10_image s m args below meth c H locs 0 0 Q (F0 m 15 ls []) := by
      intro fu17
      induction fu17 with
      | zero =>
        intro y14 x15 y13 hf
        unfold f_X10_image_L1 at hf
        exact none_ne hf
      | succ fu17 ih16 =>
        intro y14 x15 y13 hf hX18 H locs hP hD hS ls hl
        unfold f_X10_image_L1 at hf
        refine lv_iload_n hx hb dX10_image_15 rfl (lv_at hl 2 rfl) ?_
        refine lv_sipush (v := (460 : Int32)) hx hb dX10_image_16 (by decide) ?_
        refine lv_icmp_ge (tgt := 46) hx hb dX10_image_19 (by decide) (fun c19 => ?_) (fun c19 => ?_)
        · replace hf := ifp c19 hf
          obtain rfl := inj1 hf
          exact hX18 _ _ hP hD hS _ (lv_sub hl [0, 1] rfl)
        · replace hf := ifn c19 hf
          refine lv_aload_n hx hb dX10_image_22 rfl (lv_at hl 0 rfl) ?_
          refine va_get (D := (dC, dI)) (ci := 8) (v := .ref h_t_images) (C := RX10) (T := TX10) (N := 32) hx hb hts (in1 tw_X10) hown hK hP 0 rfl rfl 1 (by decide) (hts _ (List.mem_cons_of_mem _ kw_117)) (fun _ h9 => h9) rfl dX10_image_23 ?_
          refine lv_sipush (v := (460 : Int32)) hx hb dX10_image_26 (by decide) ?_
          refine lv_iload_n hx hb dX10_image_29 rfl (lv_at hl 1 rfl) ?_
          refine lv_imul hx hb dX10_image_30 ?_
          refine lv_iload_n hx hb dX10_image_31 rfl (lv_at hl 2 rfl) ?_
          refine lv_iadd hx hb dX10_image_32 ?_
          refine lv_aload_n hx hb dX10_image_33 rfl (lv_at hl 0 rfl) ?_
          refine va_get (D := (dC, dI)) (ci := 8) (v := .ref h_t_book) (C := RX10) (T := TX10) (N := 32) hx hb hts (in1 tw_X10) hown hK hP 0 rfl rfl 0 (by decide) (hts _ (List.mem_cons_of_mem _ kw_116)) (fun _ h9 => h9) rfl dX10_image_34 ?_
          refine lv_iload_n hx hb dX10_image_37 rfl (lv_at hl 2 rfl) ?_
          obtain ⟨g20, hf⟩ := chk_some hf
          refine va_iald hx hb hK hP 1 0 rfl rfl (gin_in g20) dX10_image_38 ?_
          obtain ⟨x21, e22, hf⟩ := nm_some hf
          refine lv_tope e22 ?_
          obtain ⟨g23, hf⟩ := chk_some hf
          obtain ⟨y24, e25, hf⟩ := nm_some hf
          refine va_iast hx hb hK hP hD hS 2 0 rfl rfl (gin_in g23) dX10_image_39 (fun H locs hP hD hS => ?_)
          have hP : va_P (dC, dI) vwCl [(h_t, .inr (8, fX10 h_t_book h_t_images h_t_kept h_t_aside h_t_far h_t_then h_t_row h_t_mays h_t_firstRow h_t_low h_t_high t_noOlder t_thanThis t_known t_knownAge t_moved h_t_lowOne h_t_highOne h_t_ways t_met h_t_left t_hours t_greatest h_t_text t_typed t_at t_start t_token t_value h_t_verbs h_t_nums t_items)), (h_t_book, .inl (cI, 460, .inl t_book)), (h_t_images, .inl (cI, 920, .inl y24)), (h_t_kept, .inl (cZ, 2, .inl t_kept))] H := by rw [e25]; exact hP
          have hD : va_D A [(h_t, .inr (8, fX10 h_t_book h_t_images h_t_kept h_t_aside h_t_far h_t_then h_t_row h_t_mays h_t_firstRow h_t_low h_t_high t_noOlder t_thanThis t_known t_knownAge t_moved h_t_lowOne h_t_highOne h_t_ways t_met h_t_left t_hours t_greatest h_t_text t_typed t_at t_start t_token t_value h_t_verbs h_t_nums t_items)), (h_t_book, .inl (cI, 460, .inl t_book)), (h_t_images, .inl (cI, 920, .inl y24)), (h_t_kept, .inl (cZ, 2, .inl t_kept))] := by rw [e25]; exact hD
          refine lv_iinc (v := (x15 + (1 : Int32))) (lv' := [(2, .int (x15 + (1 : Int32))), (0, .ref h_t), (1, .int p1)]) hx hb dX10_image_40 hl (k := 2) rfl rfl (by decide) rfl (fun ls hl => ?_)
          refine lv_goto (tgt := 15) hx hb dX10_image_43 (by decide) ?_
          exact ih16 _ _ _ hf hX18 _ _ hP hD hS _ (lv_sub hl [1, 2, 0] rfl)
    obtain ⟨y13, hg, hf⟩ := bd1_some hf
    refine L26 FU _ _ _ hg ?_ _ _ hP hD hS _ (lv_sub hl [1, 2, 0] rfl)
    · intro H locs hP hD hS ls hl
      refine lv_aload_n hx hb dX10_image_46 rfl (lv_at hl 0 rfl) ?_
      refine va_get (D := (dC, dI)) (ci := 8) (v := .ref h_t_kept) (C := RX10) (T := TX10) (N := 32) hx hb hts (in1 tw_X10) hown hK hP 0 rfl rfl 2 (by decide) (hts _ (List.mem_cons_of_mem _ kw_119)) (fun _ h9 => h9) rfl dX10_image_47 ?_
      refine lv_iload_n hx hb dX10_image_50 rfl (lv_at hl 1 rfl) ?_
      refine lv_iconst (v := (1 : Int32)) hx hb dX10_image_51 (by decide) ?_
      obtain ⟨g27, hf⟩ := chk_some hf
      obtain ⟨y28, e29, hf⟩ := nm_some hf
      refine va_zast hx hb hK hP hD hS 3 1 rfl rfl (gin_in g27) dX10_image_52 (fun H locs hP hD hS => ?_)
      have hP : va_P (dC, dI) vwCl [(h_t, .inr (8, fX10 h_t_book h_t_images h_t_kept h_t_aside h_t_far h_t_then h_t_row h_t_mays h_t_firstRow h_t_low h_t_high t_noOlder t_thanThis t_known t_knownAge t_moved h_t_lowOne h_t_highOne h_t_ways t_met h_t_left t_hours t_greatest h_t_text t_typed t_at t_start t_token t_value h_t_verbs h_t_nums t_items)), (h_t_book, .inl (cI, 460, .inl t_book)), (h_t_images, .inl (cI, 920, .inl y13)), (h_t_kept, .inl (cZ, 2, .inl y28))] H := by rw [e29]; exact hP
      have hD : va_D A [(h_t, .inr (8, fX10 h_t_book h_t_images h_t_kept h_t_aside h_t_far h_t_then h_t_row h_t_mays h_t_firstRow h_t_low h_t_high t_noOlder t_thanThis t_known t_knownAge t_moved h_t_lowOne h_t_highOne h_t_ways t_met h_t_left t_hours t_greatest h_t_text t_typed t_at t_start t_token t_value h_t_verbs h_t_nums t_items)), (h_t_book, .inl (cI, 460, .inl t_book)), (h_t_images, .inl (cI, 920, .inl y13)), (h_t_kept, .inl (cZ, 2, .inl y28))] := by rw [e29]; exact hD
      refine lv_iconst (v := (1 : Int32)) hx hb dX10_image_53 (by decide) ?_
      obtain ⟨rfl, rfl, rfl⟩ := inj3 hf
      subst hQ
      exact CM_iret hx hb hr rfl hlocks hAe hP hD hS dX10_image_54
  · replace hf := ifp c3 hf
    refine lv_bipush (v := (-2 : Int32)) hx hb dX10_image_10 (by decide) ?_
    obtain ⟨rfl, rfl, rfl⟩ := inj3 hf
    subst hQ
    exact CM_iret hx hb hr rfl hlocks hAe hP hD hS dX10_image_12
def rmX10_from : Room := { frames := 1, cells := 0, slots := 0, locals := 25 }
abbrev wqX10_from : List Cond := Cond.code yX10_from cX10_from 3 (some .int) :: tG
set_option maxHeartbeats 4000000 in
set_option maxRecDepth 100000 in
theorem c_X10_from (l : Launch) (dC : Nat → ClassId) (dI : Nat → Nat → Nat) (cI cZ : ClassId) (te : Nat → Nat) (h_t : Nat) (h_t_book : Nat) (h_t_images : Nat) (h_t_kept : Nat) (h_t_aside : Nat) (h_t_far : Nat) (h_t_then : Nat) (h_t_row : Nat) (h_t_mays : Nat) (h_t_firstRow : Nat) (h_t_low : Nat) (h_t_high : Nat) (h_t_lowOne : Nat) (h_t_highOne : Nat) (h_t_ways : Nat) (h_t_left : Nat) (h_t_text : Nat) (h_t_verbs : Nat) (h_t_nums : Nat) (t_noOlder : Int32) (t_thanThis : Int32) (t_known : Int32) (t_knownAge : Int32) (t_moved : Int32) (t_met : Int32) (t_hours : Int32) (t_greatest : Int32) (t_typed : Int32) (t_at : Int32) (t_start : Int32) (t_token : Int32) (t_value : Int32) (t_items : Int32) (t_kept : Nat → Int32) (t_images : Nat → Int32) (t_book : Nat → Int32) (p1 : Int32) (o0 : Int32) (o1 : Nat → Int32) (hf : f_X10_from t_kept t_images t_book p1 = some (o0, o1)) : CM l yX10_from wqX10_from rmX10_from (kS te) dC dI cI cZ [.ref h_t, .int p1] [(h_t, .inr (8, fX10 h_t_book h_t_images h_t_kept h_t_aside h_t_far h_t_then h_t_row h_t_mays h_t_firstRow h_t_low h_t_high t_noOlder t_thanThis t_known t_knownAge t_moved h_t_lowOne h_t_highOne h_t_ways t_met h_t_left t_hours t_greatest h_t_text t_typed t_at t_start t_token t_value h_t_verbs h_t_nums t_items)), (h_t_kept, .inl (cZ, 2, .inl t_kept)), (h_t_images, .inl (cI, 920, .inl t_images)), (h_t_book, .inl (cI, 460, .inl t_book))] [(h_t, .inr (8, fX10 h_t_book h_t_images h_t_kept h_t_aside h_t_far h_t_then h_t_row h_t_mays h_t_firstRow h_t_low h_t_high t_noOlder t_thanThis t_known t_knownAge t_moved h_t_lowOne h_t_highOne h_t_ways t_met h_t_left t_hours t_greatest h_t_text t_typed t_at t_start t_token t_value h_t_verbs h_t_nums t_items)), (h_t_kept, .inl (cZ, 2, .inl t_kept)), (h_t_images, .inl (cI, 920, .inl t_images)), (h_t_book, .inl (cI, 460, .inl o1))] (some (.int o0)) := by
  refine CM_of (cc := cX10_from) (maxL := 3) (ret := (some .int)) (by decide +kernel) rfl (Nat.le_of_ble_eq_true rfl) ?_
  intro p e s m args below meth c A Q hx hb hr hml hown hts hlocks hA hK hP hD hS hE hQ hAe ls hl
  have hown : s.vm.findClass RX10 = some m.cls := hown
  have hl : lv_has ls 3 [(0, .ref h_t), (1, .int p1)] := hl
  unfold f_X10_from at hf
  refine lv_iload_n hx hb dX10_from_0 rfl (lv_at hl 1 rfl) ?_
  refine lv_i2l hx hb dX10_from_1 rfl ?_
  refine lv_lconst (v := (0 : Int64)) hx hb dX10_from_2 (by decide) ?_
  refine lv_lconst (v := (1 : Int64)) hx hb dX10_from_3 (by decide) ?_
  obtain ⟨r1, hg2, hf⟩ := bd1_some hf
  refine CM_callS (As := [.long p1.toInt64, .long (0 : Int64), .long (1 : Int64)]) (rest := []) (wc := []) (w1 := []) (wr := [(h_t, .inr (8, fX10 h_t_book h_t_images h_t_kept h_t_aside h_t_far h_t_then h_t_row h_t_mays h_t_firstRow h_t_low h_t_high t_noOlder t_thanThis t_known t_knownAge t_moved h_t_lowOne h_t_highOne h_t_ways t_met h_t_left t_hours t_greatest h_t_text t_typed t_at t_start t_token t_value h_t_verbs h_t_nums t_items)), (h_t_kept, .inl (cZ, 2, .inl t_kept)), (h_t_images, .inl (cI, 920, .inl t_images)), (h_t_book, .inl (cI, 460, .inl t_book))]) (wo := [(h_t, .inr (8, fX10 h_t_book h_t_images h_t_kept h_t_aside h_t_far h_t_then h_t_row h_t_mays h_t_firstRow h_t_low h_t_high t_noOlder t_thanThis t_known t_knownAge t_moved h_t_lowOne h_t_highOne h_t_ways t_met h_t_left t_hours t_greatest h_t_text t_typed t_at t_start t_token t_value h_t_verbs h_t_nums t_items)), (h_t_kept, .inl (cZ, 2, .inl t_kept)), (h_t_images, .inl (cI, 920, .inl t_images)), (h_t_book, .inl (cI, 460, .inl t_book))]) (v := (some (.int r1))) ⟨hx, hb, hml, hown, hts⟩ (c_X10_in l dC dI cI cZ te (p1.toInt64) (0 : Int64) (1 : Int64) r1 hg2) (va_cwS 3 hts (gS kw_157 kw_158 kw_159 kw_160) rfl rfl rfl (by decide +kernel) ⟨Nat.le_of_ble_eq_true rfl, Nat.le_of_ble_eq_true rfl⟩) (kS_env te) hK hP hD hS hA hE [] [0, 1, 2, 3] [0, 1, 2, 3] rfl rfl (by decide) (by decide) (by decide) (by decide) rfl rfl hl.1 rfl (Nat.le_of_ble_eq_true rfl) dX10_from_4 ⟨Nat.zero_le _, Nat.zero_le _⟩ (fun H locs hP hD hS => ?_)
  show W p l e rmX10_from s m args below meth c H locs 0 0 Q (F0 m 7 ls [.int r1])
  refine lv_if_ne (tgt := 13) hx hb dX10_from_7 (by decide) (fun c3 => ?_) (fun c3 => ?_)
  · replace hf := ifn c3 hf
    refine lv_aload_n hx hb dX10_from_13 rfl (lv_at hl 0 rfl) ?_
    refine va_get (D := (dC, dI)) (ci := 8) (v := .ref h_t_kept) (C := RX10) (T := TX10) (N := 32) hx hb hts (in1 tw_X10) hown hK hP 0 rfl rfl 2 (by decide) (hts _ (List.mem_cons_of_mem _ kw_119)) (fun _ h9 => h9) rfl dX10_from_14 ?_
    refine lv_iload_n hx hb dX10_from_17 rfl (lv_at hl 1 rfl) ?_
    obtain ⟨g4, hf⟩ := chk_some hf
    refine va_zald hx hb hK hP 1 1 rfl rfl (gin_in g4) dX10_from_18 ?_
    refine lv_if_ne (tgt := 25) hx hb dX10_from_19 (by decide) (fun c5 => ?_) (fun c5 => ?_)
    · replace hf := ifn c5 hf
      refine lv_iconst (v := (0 : Int32)) hx hb dX10_from_25 (by decide) ?_
      refine lv_istore_n (lv' := [(2, .int (0 : Int32)), (0, .ref h_t), (1, .int p1)]) hx hb dX10_from_26 rfl hl (by decide) rfl (fun ls hl => ?_)
      have L28 : ∀ (fu19 : Nat) (y16 : Nat → Int32) (x17 : Int32) (y15 : Nat → Int32), f_X10_from_L1 p1 t_images fu19 y16 x17 = some y15 → (∀ (H : Heap) (locs : List Loc), va_P (dC, dI) vwCl [(h_t, .inr (8, fX10 h_t_book h_t_images h_t_kept h_t_aside h_t_far h_t_then h_t_row h_t_mays h_t_firstRow h_t_low h_t_high t_noOlder t_thanThis t_known t_knownAge t_moved h_t_lowOne h_t_highOne h_t_ways t_met h_t_left t_hours t_greatest h_t_text t_typed t_at t_start t_token t_value h_t_verbs h_t_nums t_items)), (h_t_kept, .inl (cZ, 2, .inl t_kept)), (h_t_images, .inl (cI, 920, .inl t_images)), (h_t_book, .inl (cI, 460, .inl y15))] H → va_D A [(h_t, .inr (8, fX10 h_t_book h_t_images h_t_kept h_t_aside h_t_far h_t_then h_t_row h_t_mays h_t_firstRow h_t_low h_t_high t_noOlder t_thanThis t_known t_knownAge t_moved h_t_lowOne h_t_highOne h_t_ways t_met h_t_left t_hours t_greatest h_t_text t_typed t_at t_start t_token t_value h_t_verbs h_t_nums t_items)), (h_t_kept, .inl (cZ, 2, .inl t_kept)), (h_t_images, .inl (cI, 920, .inl t_images)), (h_t_book, .inl (cI, 460, .inl y15))] → va_S A s.heap H locs → ∀ ls : Array Slot, lv_has ls 3 [] → W p l e rmX10_from s m args below meth c H locs 0 0 Q (F0 m 58 ls [])) → ∀ (H : Heap) (locs : List Loc), va_P (dC, dI) vwCl [(h_t, .inr (8, fX10 h_t_book h_t_images h_t_kept h_t_aside h_t_far h_t_then h_t_row h_t_mays h_t_firstRow h_t_low h_t_high t_noOlder t_thanThis t_known t_knownAge t_moved h_t_lowOne h_t_highOne h_t_ways t_met h_t_left t_hours t_greatest h_t_text t_typed t_at t_start t_token t_value h_t_verbs h_t_nums t_items)), (h_t_kept, .inl (cZ, 2, .inl t_kept)), (h_t_images, .inl (cI, 920, .inl t_images)), (h_t_book, .inl (cI, 460, .inl y16))] H → va_D A [(h_t, .inr (8, fX10 h_t_book h_t_images h_t_kept h_t_aside h_t_far h_t_then h_t_row h_t_mays h_t_firstRow h_t_low h_t_high t_noOlder t_thanThis t_known t_knownAge t_moved h_t_lowOne h_t_highOne h_t_ways t_met h_t_left t_hours t_greatest h_t_text t_typed t_at t_start t_token t_value h_t_verbs h_t_nums t_items)), (h_t_kept, .inl (cZ, 2, .inl t_kept)), (h_t_images, .inl (cI, 920, .inl t_images)), (h_t_book, .inl (cI, 460, .inl y16))] → va_S A s.heap H locs → ∀ ls : Array Slot, lv_has ls 3 [(0, .ref h_t), (1, .int p1), (2, .int x17)] → W p l e rmX10_from s m args below meth c H locs 0 0 Q (F0 m 27 ls []) := by
        intro fu19
        induction fu19 with
        | zero =>
          intro y16 x17 y15 hf
          unfold f_X10_from_L1 at hf
          exact none_ne hf
        | succ fu19 ih18 =>
          intro y16 x17 y15 hf hX20 H locs hP hD hS ls hl
          unfold f_X10_from_L1 at hf
          refine lv_iload_n hx hb dX10_from_27 rfl (lv_at hl 2 rfl) ?_
          refine lv_sipush (v := (460 : Int32)) hx hb dX10_from_28 (by decide) ?_
          refine lv_icmp_ge (tgt := 58) hx hb dX10_from_31 (by decide) (fun c21 => ?_) (fun c21 => ?_)
          · replace hf := ifp c21 hf
            obtain rfl := inj1 hf
            exact hX20 _ _ hP hD hS _ (lv_sub hl [] rfl)
          · replace hf := ifn c21 hf
            refine lv_aload_n hx hb dX10_from_34 rfl (lv_at hl 0 rfl) ?_
            refine va_get (D := (dC, dI)) (ci := 8) (v := .ref h_t_book) (C := RX10) (T := TX10) (N := 32) hx hb hts (in1 tw_X10) hown hK hP 0 rfl rfl 0 (by decide) (hts _ (List.mem_cons_of_mem _ kw_116)) (fun _ h9 => h9) rfl dX10_from_35 ?_
            refine lv_iload_n hx hb dX10_from_38 rfl (lv_at hl 2 rfl) ?_
            refine lv_aload_n hx hb dX10_from_39 rfl (lv_at hl 0 rfl) ?_
            refine va_get (D := (dC, dI)) (ci := 8) (v := .ref h_t_images) (C := RX10) (T := TX10) (N := 32) hx hb hts (in1 tw_X10) hown hK hP 0 rfl rfl 1 (by decide) (hts _ (List.mem_cons_of_mem _ kw_117)) (fun _ h9 => h9) rfl dX10_from_40 ?_
            refine lv_sipush (v := (460 : Int32)) hx hb dX10_from_43 (by decide) ?_
            refine lv_iload_n hx hb dX10_from_46 rfl (lv_at hl 1 rfl) ?_
            refine lv_imul hx hb dX10_from_47 ?_
            refine lv_iload_n hx hb dX10_from_48 rfl (lv_at hl 2 rfl) ?_
            refine lv_iadd hx hb dX10_from_49 ?_
            obtain ⟨g22, hf⟩ := chk_some hf
            refine va_iald hx hb hK hP 2 0 rfl rfl (gin_in g22) dX10_from_50 ?_
            obtain ⟨x23, e24, hf⟩ := nm_some hf
            refine lv_tope e24 ?_
            obtain ⟨g25, hf⟩ := chk_some hf
            obtain ⟨y26, e27, hf⟩ := nm_some hf
            refine va_iast hx hb hK hP hD hS 3 0 rfl rfl (gin_in g25) dX10_from_51 (fun H locs hP hD hS => ?_)
            have hP : va_P (dC, dI) vwCl [(h_t, .inr (8, fX10 h_t_book h_t_images h_t_kept h_t_aside h_t_far h_t_then h_t_row h_t_mays h_t_firstRow h_t_low h_t_high t_noOlder t_thanThis t_known t_knownAge t_moved h_t_lowOne h_t_highOne h_t_ways t_met h_t_left t_hours t_greatest h_t_text t_typed t_at t_start t_token t_value h_t_verbs h_t_nums t_items)), (h_t_kept, .inl (cZ, 2, .inl t_kept)), (h_t_images, .inl (cI, 920, .inl t_images)), (h_t_book, .inl (cI, 460, .inl y26))] H := by rw [e27]; exact hP
            have hD : va_D A [(h_t, .inr (8, fX10 h_t_book h_t_images h_t_kept h_t_aside h_t_far h_t_then h_t_row h_t_mays h_t_firstRow h_t_low h_t_high t_noOlder t_thanThis t_known t_knownAge t_moved h_t_lowOne h_t_highOne h_t_ways t_met h_t_left t_hours t_greatest h_t_text t_typed t_at t_start t_token t_value h_t_verbs h_t_nums t_items)), (h_t_kept, .inl (cZ, 2, .inl t_kept)), (h_t_images, .inl (cI, 920, .inl t_images)), (h_t_book, .inl (cI, 460, .inl y26))] := by rw [e27]; exact hD
            refine lv_iinc (v := (x17 + (1 : Int32))) (lv' := [(2, .int (x17 + (1 : Int32))), (0, .ref h_t), (1, .int p1)]) hx hb dX10_from_52 hl (k := 2) rfl rfl (by decide) rfl (fun ls hl => ?_)
            refine lv_goto (tgt := 27) hx hb dX10_from_55 (by decide) ?_
            exact ih18 _ _ _ hf hX20 _ _ hP hD hS _ (lv_sub hl [1, 2, 0] rfl)
      obtain ⟨y15, hg, hf⟩ := bd1_some hf
      refine L28 FU _ _ _ hg ?_ _ _ hP hD hS _ (lv_sub hl [1, 2, 0] rfl)
      · intro H locs hP hD hS ls hl
        refine lv_iconst (v := (1 : Int32)) hx hb dX10_from_58 (by decide) ?_
        obtain ⟨rfl, rfl⟩ := inj2 hf
        subst hQ
        exact CM_iret hx hb hr rfl hlocks hAe hP hD hS dX10_from_59
    · replace hf := ifp c5 hf
      refine lv_bipush (v := (-3 : Int32)) hx hb dX10_from_22 (by decide) ?_
      obtain ⟨rfl, rfl⟩ := inj2 hf
      subst hQ
      exact CM_iret hx hb hr rfl hlocks hAe hP hD hS dX10_from_24
  · replace hf := ifp c3 hf
    refine lv_bipush (v := (-2 : Int32)) hx hb dX10_from_10 (by decide) ?_
    obtain ⟨rfl, rfl⟩ := inj2 hf
    subst hQ
    exact CM_iret hx hb hr rfl hlocks hAe hP hD hS dX10_from_12
def rmX10_countOf : Room := { frames := 0, cells := 0, slots := 0, locals := 0 }
abbrev wqX10_countOf : List Cond := Cond.code yX10_countOf cX10_countOf 2 (some .int) :: tG
set_option maxHeartbeats 4000000 in
set_option maxRecDepth 100000 in
theorem c_X10_countOf (l : Launch) (dC : Nat → ClassId) (dI : Nat → Nat → Nat) (cI cZ : ClassId) (te : Nat → Nat) (h_t : Nat) (h_t_book : Nat) (h_t_images : Nat) (h_t_kept : Nat) (h_t_aside : Nat) (h_t_far : Nat) (h_t_then : Nat) (h_t_row : Nat) (h_t_mays : Nat) (h_t_firstRow : Nat) (h_t_low : Nat) (h_t_high : Nat) (h_t_lowOne : Nat) (h_t_highOne : Nat) (h_t_ways : Nat) (h_t_left : Nat) (h_t_text : Nat) (h_t_verbs : Nat) (h_t_nums : Nat) (t_noOlder : Int32) (t_thanThis : Int32) (t_known : Int32) (t_knownAge : Int32) (t_moved : Int32) (t_met : Int32) (t_hours : Int32) (t_greatest : Int32) (t_typed : Int32) (t_at : Int32) (t_start : Int32) (t_token : Int32) (t_value : Int32) (t_items : Int32) (t_book : Nat → Int32) (p1 : Int32) (o0 : Int32) (hf : f_X10_countOf t_typed t_book p1 = some o0) : CM l yX10_countOf wqX10_countOf rmX10_countOf (kS te) dC dI cI cZ [.ref h_t, .int p1] [(h_t, .inr (8, fX10 h_t_book h_t_images h_t_kept h_t_aside h_t_far h_t_then h_t_row h_t_mays h_t_firstRow h_t_low h_t_high t_noOlder t_thanThis t_known t_knownAge t_moved h_t_lowOne h_t_highOne h_t_ways t_met h_t_left t_hours t_greatest h_t_text t_typed t_at t_start t_token t_value h_t_verbs h_t_nums t_items)), (h_t_book, .inl (cI, 460, .inl t_book))] [(h_t, .inr (8, fX10 h_t_book h_t_images h_t_kept h_t_aside h_t_far h_t_then h_t_row h_t_mays h_t_firstRow h_t_low h_t_high t_noOlder t_thanThis t_known t_knownAge t_moved h_t_lowOne h_t_highOne h_t_ways t_met h_t_left t_hours t_greatest h_t_text t_typed t_at t_start t_token t_value h_t_verbs h_t_nums t_items)), (h_t_book, .inl (cI, 460, .inl t_book))] (some (.int o0)) := by
  refine CM_of (cc := cX10_countOf) (maxL := 2) (ret := (some .int)) (by decide +kernel) rfl (Nat.le_of_ble_eq_true rfl) ?_
  intro p e s m args below meth c A Q hx hb hr hml hown hts hlocks hA hK hP hD hS hE hQ hAe ls hl
  have hown : s.vm.findClass RX10 = some m.cls := hown
  have hl : lv_has ls 2 [(0, .ref h_t), (1, .int p1)] := hl
  unfold f_X10_countOf at hf
  refine lv_iload_n hx hb dX10_countOf_0 rfl (lv_at hl 1 rfl) ?_
  refine lv_bipush (v := (6 : Int32)) hx hb dX10_countOf_1 (by decide) ?_
  refine lv_icmp_ge (tgt := 15) hx hb dX10_countOf_3 (by decide) (fun c1 => ?_) (fun c1 => ?_)
  · replace hf := ifp c1 hf
    refine lv_aload_n hx hb dX10_countOf_15 rfl (lv_at hl 0 rfl) ?_
    refine va_get (D := (dC, dI)) (ci := 8) (v := .int t_typed) (C := RX10) (T := TX10) (N := 32) hx hb hts (in1 tw_X10) hown hK hP 0 rfl rfl 24 (by decide) (hts _ (List.mem_cons_of_mem _ kw_323)) (fun _ h9 => h9) rfl dX10_countOf_16 ?_
    obtain rfl := inj1 hf
    subst hQ
    exact CM_iret hx hb hr rfl hlocks hAe hP hD hS dX10_countOf_19
  · replace hf := ifn c1 hf
    refine lv_aload_n hx hb dX10_countOf_6 rfl (lv_at hl 0 rfl) ?_
    refine va_get (D := (dC, dI)) (ci := 8) (v := .ref h_t_book) (C := RX10) (T := TX10) (N := 32) hx hb hts (in1 tw_X10) hown hK hP 0 rfl rfl 0 (by decide) (hts _ (List.mem_cons_of_mem _ kw_116)) (fun _ h9 => h9) rfl dX10_countOf_7 ?_
    refine lv_iload_n hx hb dX10_countOf_10 rfl (lv_at hl 1 rfl) ?_
    obtain ⟨g2, hf⟩ := chk_some hf
    refine va_iald hx hb hK hP 1 0 rfl rfl (gin_in g2) dX10_countOf_11 ?_
    refine lv_goto (tgt := 19) hx hb dX10_countOf_12 (by decide) ?_
    obtain rfl := inj1 hf
    subst hQ
    exact CM_iret hx hb hr rfl hlocks hAe hP hD hS dX10_countOf_19
def rmX10_count : Room := { frames := 1, cells := 0, slots := 0, locals := 25 }
abbrev wqX10_count : List Cond := Cond.code yX10_count cX10_count 2 (some .int) :: tG
set_option maxHeartbeats 4000000 in
set_option maxRecDepth 100000 in
theorem c_X10_count (l : Launch) (dC : Nat → ClassId) (dI : Nat → Nat → Nat) (cI cZ : ClassId) (te : Nat → Nat) (h_t : Nat) (h_t_book : Nat) (h_t_images : Nat) (h_t_kept : Nat) (h_t_aside : Nat) (h_t_far : Nat) (h_t_then : Nat) (h_t_row : Nat) (h_t_mays : Nat) (h_t_firstRow : Nat) (h_t_low : Nat) (h_t_high : Nat) (h_t_lowOne : Nat) (h_t_highOne : Nat) (h_t_ways : Nat) (h_t_left : Nat) (h_t_text : Nat) (h_t_verbs : Nat) (h_t_nums : Nat) (t_noOlder : Int32) (t_thanThis : Int32) (t_known : Int32) (t_knownAge : Int32) (t_moved : Int32) (t_met : Int32) (t_hours : Int32) (t_greatest : Int32) (t_typed : Int32) (t_at : Int32) (t_start : Int32) (t_token : Int32) (t_value : Int32) (t_items : Int32) (t_book : Nat → Int32) (p1 : Int32) (o0 : Int32) (hf : f_X10_count t_typed t_book p1 = some o0) : CM l yX10_count wqX10_count rmX10_count (kS te) dC dI cI cZ [.ref h_t, .int p1] [(h_t, .inr (8, fX10 h_t_book h_t_images h_t_kept h_t_aside h_t_far h_t_then h_t_row h_t_mays h_t_firstRow h_t_low h_t_high t_noOlder t_thanThis t_known t_knownAge t_moved h_t_lowOne h_t_highOne h_t_ways t_met h_t_left t_hours t_greatest h_t_text t_typed t_at t_start t_token t_value h_t_verbs h_t_nums t_items)), (h_t_book, .inl (cI, 460, .inl t_book))] [(h_t, .inr (8, fX10 h_t_book h_t_images h_t_kept h_t_aside h_t_far h_t_then h_t_row h_t_mays h_t_firstRow h_t_low h_t_high t_noOlder t_thanThis t_known t_knownAge t_moved h_t_lowOne h_t_highOne h_t_ways t_met h_t_left t_hours t_greatest h_t_text t_typed t_at t_start t_token t_value h_t_verbs h_t_nums t_items)), (h_t_book, .inl (cI, 460, .inl t_book))] (some (.int o0)) := by
  refine CM_of (cc := cX10_count) (maxL := 2) (ret := (some .int)) (by decide +kernel) rfl (Nat.le_of_ble_eq_true rfl) ?_
  intro p e s m args below meth c A Q hx hb hr hml hown hts hlocks hA hK hP hD hS hE hQ hAe ls hl
  have hown : s.vm.findClass RX10 = some m.cls := hown
  have hl : lv_has ls 2 [(0, .ref h_t), (1, .int p1)] := hl
  unfold f_X10_count at hf
  refine lv_iload_n hx hb dX10_count_0 rfl (lv_at hl 1 rfl) ?_
  refine lv_i2l hx hb dX10_count_1 rfl ?_
  refine lv_lconst (v := (0 : Int64)) hx hb dX10_count_2 (by decide) ?_
  refine lv_ldc2 (v := (6 : Int64)) hx hb hown (hts _ (List.mem_cons_of_mem _ kw_390)) dX10_count_3 ?_
  obtain ⟨r1, hg2, hf⟩ := bd1_some hf
  refine CM_callS (As := [.long p1.toInt64, .long (0 : Int64), .long (6 : Int64)]) (rest := []) (wc := []) (w1 := []) (wr := [(h_t, .inr (8, fX10 h_t_book h_t_images h_t_kept h_t_aside h_t_far h_t_then h_t_row h_t_mays h_t_firstRow h_t_low h_t_high t_noOlder t_thanThis t_known t_knownAge t_moved h_t_lowOne h_t_highOne h_t_ways t_met h_t_left t_hours t_greatest h_t_text t_typed t_at t_start t_token t_value h_t_verbs h_t_nums t_items)), (h_t_book, .inl (cI, 460, .inl t_book))]) (wo := [(h_t, .inr (8, fX10 h_t_book h_t_images h_t_kept h_t_aside h_t_far h_t_then h_t_row h_t_mays h_t_firstRow h_t_low h_t_high t_noOlder t_thanThis t_known t_knownAge t_moved h_t_lowOne h_t_highOne h_t_ways t_met h_t_left t_hours t_greatest h_t_text t_typed t_at t_start t_token t_value h_t_verbs h_t_nums t_items)), (h_t_book, .inl (cI, 460, .inl t_book))]) (v := (some (.int r1))) ⟨hx, hb, hml, hown, hts⟩ (c_X10_in l dC dI cI cZ te (p1.toInt64) (0 : Int64) (6 : Int64) r1 hg2) (va_cwS 3 hts (gS kw_157 kw_158 kw_159 kw_160) rfl rfl rfl (by decide +kernel) ⟨Nat.le_of_ble_eq_true rfl, Nat.le_of_ble_eq_true rfl⟩) (kS_env te) hK hP hD hS hA hE [] [0, 1] [0, 1] rfl rfl (by decide) (by decide) (by decide) (by decide) rfl rfl hl.1 rfl (Nat.le_of_ble_eq_true rfl) dX10_count_6 ⟨Nat.zero_le _, Nat.zero_le _⟩ (fun H locs hP hD hS => ?_)
  show W p l e rmX10_count s m args below meth c H locs 0 0 Q (F0 m 9 ls [.int r1])
  refine lv_if_eq (tgt := 20) hx hb dX10_count_9 (by decide) (fun c3 => ?_) (fun c3 => ?_)
  · replace hf := ifp c3 hf
    refine lv_bipush (v := (-2 : Int32)) hx hb dX10_count_20 (by decide) ?_
    obtain rfl := inj1 hf
    subst hQ
    exact CM_iret hx hb hr rfl hlocks hAe hP hD hS dX10_count_22
  · replace hf := ifn c3 hf
    refine lv_aload_n hx hb dX10_count_12 rfl (lv_at hl 0 rfl) ?_
    refine lv_iload_n hx hb dX10_count_13 rfl (lv_at hl 1 rfl) ?_
    obtain ⟨r4, hg5, hf⟩ := bd1_some hf
    refine CM_callV (C := RX10) (As := [.int p1]) (rest := []) (wc := [(h_t, .inr (8, fX10 h_t_book h_t_images h_t_kept h_t_aside h_t_far h_t_then h_t_row h_t_mays h_t_firstRow h_t_low h_t_high t_noOlder t_thanThis t_known t_knownAge t_moved h_t_lowOne h_t_highOne h_t_ways t_met h_t_left t_hours t_greatest h_t_text t_typed t_at t_start t_token t_value h_t_verbs h_t_nums t_items)), (h_t_book, .inl (cI, 460, .inl t_book))]) (w1 := [(h_t, .inr (8, fX10 h_t_book h_t_images h_t_kept h_t_aside h_t_far h_t_then h_t_row h_t_mays h_t_firstRow h_t_low h_t_high t_noOlder t_thanThis t_known t_knownAge t_moved h_t_lowOne h_t_highOne h_t_ways t_met h_t_left t_hours t_greatest h_t_text t_typed t_at t_start t_token t_value h_t_verbs h_t_nums t_items)), (h_t_book, .inl (cI, 460, .inl t_book))]) (wr := []) (wo := [(h_t, .inr (8, fX10 h_t_book h_t_images h_t_kept h_t_aside h_t_far h_t_then h_t_row h_t_mays h_t_firstRow h_t_low h_t_high t_noOlder t_thanThis t_known t_knownAge t_moved h_t_lowOne h_t_highOne h_t_ways t_met h_t_left t_hours t_greatest h_t_text t_typed t_at t_start t_token t_value h_t_verbs h_t_nums t_items)), (h_t_book, .inl (cI, 460, .inl t_book))]) (v := (some (.int r4))) ⟨hx, hb, hml, hown, hts⟩ (c_X10_countOf l dC dI cI cZ te h_t h_t_book h_t_images h_t_kept h_t_aside h_t_far h_t_then h_t_row h_t_mays h_t_firstRow h_t_low h_t_high h_t_lowOne h_t_highOne h_t_ways h_t_left h_t_text h_t_verbs h_t_nums t_noOlder t_thanThis t_known t_knownAge t_moved t_met t_hours t_greatest t_typed t_at t_start t_token t_value t_items t_book p1 r4 hg5) (cwV 1 hts (gV kw_391 kw_392 kw_393 kw_159 kw_394) rfl rfl rfl (by decide +kernel) ⟨Nat.le_of_ble_eq_true rfl, Nat.le_of_ble_eq_true rfl⟩) (kS_env te) hK hP hD hS hA hE [0, 1] [] [0, 1] rfl rfl (by decide) (by decide) (by decide) (by decide) rfl 0 8 rfl rfl rfl rfl hl.1 rfl (Nat.le_of_ble_eq_true rfl) dX10_count_14 ⟨Nat.zero_le _, Nat.zero_le _⟩ (fun H locs hP hD hS => ?_)
    show W p l e rmX10_count s m args below meth c H locs 0 0 Q (F0 m 17 ls [.int r4])
    refine lv_goto (tgt := 22) hx hb dX10_count_17 (by decide) ?_
    obtain rfl := inj1 hf
    subst hQ
    exact CM_iret hx hb hr rfl hlocks hAe hP hD hS dX10_count_22
def rmX10_mixed : Room := { frames := 0, cells := 0, slots := 0, locals := 0 }
abbrev wqX10_mixed : List Cond := Cond.code yX10_mixed cX10_mixed 8 (some .long) :: tG
set_option maxHeartbeats 4000000 in
set_option maxRecDepth 100000 in
theorem c_X10_mixed (l : Launch) (dC : Nat → ClassId) (dI : Nat → Nat → Nat) (cI cZ : ClassId) (te : Nat → Nat) (h_t : Nat) (h_t_book : Nat) (h_t_images : Nat) (h_t_kept : Nat) (h_t_aside : Nat) (h_t_far : Nat) (h_t_then : Nat) (h_t_row : Nat) (h_t_mays : Nat) (h_t_firstRow : Nat) (h_t_low : Nat) (h_t_high : Nat) (h_t_lowOne : Nat) (h_t_highOne : Nat) (h_t_ways : Nat) (h_t_left : Nat) (h_t_text : Nat) (h_t_verbs : Nat) (h_t_nums : Nat) (t_noOlder : Int32) (t_thanThis : Int32) (t_known : Int32) (t_knownAge : Int32) (t_moved : Int32) (t_met : Int32) (t_hours : Int32) (t_greatest : Int32) (t_typed : Int32) (t_at : Int32) (t_start : Int32) (t_token : Int32) (t_value : Int32) (t_items : Int32) (t_book : Nat → Int32) (p1 : Int64) (p2 : Int32) (p3 : Int32) (o0 : Int64) (hf : f_X10_mixed t_book p1 p2 p3 = some o0) : CM l yX10_mixed wqX10_mixed rmX10_mixed (kS te) dC dI cI cZ [.ref h_t, .long p1, .int p2, .int p3] [(h_t, .inr (8, fX10 h_t_book h_t_images h_t_kept h_t_aside h_t_far h_t_then h_t_row h_t_mays h_t_firstRow h_t_low h_t_high t_noOlder t_thanThis t_known t_knownAge t_moved h_t_lowOne h_t_highOne h_t_ways t_met h_t_left t_hours t_greatest h_t_text t_typed t_at t_start t_token t_value h_t_verbs h_t_nums t_items)), (h_t_book, .inl (cI, 460, .inl t_book))] [(h_t, .inr (8, fX10 h_t_book h_t_images h_t_kept h_t_aside h_t_far h_t_then h_t_row h_t_mays h_t_firstRow h_t_low h_t_high t_noOlder t_thanThis t_known t_knownAge t_moved h_t_lowOne h_t_highOne h_t_ways t_met h_t_left t_hours t_greatest h_t_text t_typed t_at t_start t_token t_value h_t_verbs h_t_nums t_items)), (h_t_book, .inl (cI, 460, .inl t_book))] (some (.long o0)) := by
  refine CM_of (cc := cX10_mixed) (maxL := 8) (ret := (some .long)) (by decide +kernel) rfl (Nat.le_of_ble_eq_true rfl) ?_
  intro p e s m args below meth c A Q hx hb hr hml hown hts hlocks hA hK hP hD hS hE hQ hAe ls hl
  have hown : s.vm.findClass RX10 = some m.cls := hown
  have hl : lv_has ls 8 [(0, .ref h_t), (1, .long p1), (3, .int p2), (4, .int p3)] := hl
  unfold f_X10_mixed at hf
  refine lv_lload_n hx hb dX10_mixed_0 rfl (lv_at hl 1 rfl) ?_
  refine lv_lstore (lv' := [(5, .long p1), (0, .ref h_t), (1, .long p1), (3, .int p2), (4, .int p3)]) hx hb dX10_mixed_1 hl (by decide) rfl (fun ls hl => ?_)
  refine lv_iconst (v := (0 : Int32)) hx hb dX10_mixed_3 (by decide) ?_
  refine lv_istore (lv' := [(7, .int (0 : Int32)), (5, .long p1), (0, .ref h_t), (1, .long p1), (3, .int p2), (4, .int p3)]) hx hb dX10_mixed_4 hl (by decide) rfl (fun ls hl => ?_)
  have L17 : ∀ (fu11 : Nat) (x8 : Int64) (x9 : Int32) (x7 : Int64), f_X10_mixed_L1 p3 p2 t_book fu11 x8 x9 = some x7 → (∀ (H : Heap) (locs : List Loc), va_P (dC, dI) vwCl [(h_t, .inr (8, fX10 h_t_book h_t_images h_t_kept h_t_aside h_t_far h_t_then h_t_row h_t_mays h_t_firstRow h_t_low h_t_high t_noOlder t_thanThis t_known t_knownAge t_moved h_t_lowOne h_t_highOne h_t_ways t_met h_t_left t_hours t_greatest h_t_text t_typed t_at t_start t_token t_value h_t_verbs h_t_nums t_items)), (h_t_book, .inl (cI, 460, .inl t_book))] H → va_D A [(h_t, .inr (8, fX10 h_t_book h_t_images h_t_kept h_t_aside h_t_far h_t_then h_t_row h_t_mays h_t_firstRow h_t_low h_t_high t_noOlder t_thanThis t_known t_knownAge t_moved h_t_lowOne h_t_highOne h_t_ways t_met h_t_left t_hours t_greatest h_t_text t_typed t_at t_start t_token t_value h_t_verbs h_t_nums t_items)), (h_t_book, .inl (cI, 460, .inl t_book))] → va_S A s.heap H locs → ∀ ls : Array Slot, lv_has ls 8 [(5, .long x7)] → W p l e rmX10_mixed s m args below meth c H locs 0 0 Q (F0 m 38 ls [])) → ∀ (H : Heap) (locs : List Loc), va_P (dC, dI) vwCl [(h_t, .inr (8, fX10 h_t_book h_t_images h_t_kept h_t_aside h_t_far h_t_then h_t_row h_t_mays h_t_firstRow h_t_low h_t_high t_noOlder t_thanThis t_known t_knownAge t_moved h_t_lowOne h_t_highOne h_t_ways t_met h_t_left t_hours t_greatest h_t_text t_typed t_at t_start t_token t_value h_t_verbs h_t_nums t_items)), (h_t_book, .inl (cI, 460, .inl t_book))] H → va_D A [(h_t, .inr (8, fX10 h_t_book h_t_images h_t_kept h_t_aside h_t_far h_t_then h_t_row h_t_mays h_t_firstRow h_t_low h_t_high t_noOlder t_thanThis t_known t_knownAge t_moved h_t_lowOne h_t_highOne h_t_ways t_met h_t_left t_hours t_greatest h_t_text t_typed t_at t_start t_token t_value h_t_verbs h_t_nums t_items)), (h_t_book, .inl (cI, 460, .inl t_book))] → va_S A s.heap H locs → ∀ ls : Array Slot, lv_has ls 8 [(0, .ref h_t), (3, .int p2), (4, .int p3), (5, .long x8), (7, .int x9)] → W p l e rmX10_mixed s m args below meth c H locs 0 0 Q (F0 m 6 ls []) := by
    intro fu11
    induction fu11 with
    | zero =>
      intro x8 x9 x7 hf
      unfold f_X10_mixed_L1 at hf
      exact none_ne hf
    | succ fu11 ih10 =>
      intro x8 x9 x7 hf hX12 H locs hP hD hS ls hl
      unfold f_X10_mixed_L1 at hf
      refine lv_iload hx hb dX10_mixed_6 (lv_at hl 4 rfl) ?_
      refine lv_iload hx hb dX10_mixed_8 (lv_at hl 2 rfl) ?_
      refine lv_icmp_ge (tgt := 38) hx hb dX10_mixed_10 (by decide) (fun c13 => ?_) (fun c13 => ?_)
      · replace hf := ifp c13 hf
        obtain rfl := inj1 hf
        exact hX12 _ _ hP hD hS _ (lv_sub hl [3] rfl)
      · replace hf := ifn c13 hf
        refine lv_ldc2 (v := (31 : Int64)) hx hb hown (hts _ (List.mem_cons_of_mem _ kw_395)) dX10_mixed_13 ?_
        refine lv_lload hx hb dX10_mixed_16 (lv_at hl 3 rfl) ?_
        refine lv_lmul hx hb dX10_mixed_18 ?_
        refine lv_aload_n hx hb dX10_mixed_19 rfl (lv_at hl 0 rfl) ?_
        refine va_get (D := (dC, dI)) (ci := 8) (v := .ref h_t_book) (C := RX10) (T := TX10) (N := 32) hx hb hts (in1 tw_X10) hown hK hP 0 rfl rfl 0 (by decide) (hts _ (List.mem_cons_of_mem _ kw_116)) (fun _ h9 => h9) rfl dX10_mixed_20 ?_
        refine lv_iload_n hx hb dX10_mixed_23 rfl (lv_at hl 1 rfl) ?_
        refine lv_iload hx hb dX10_mixed_24 (lv_at hl 4 rfl) ?_
        refine lv_iadd hx hb dX10_mixed_26 ?_
        obtain ⟨g14, hf⟩ := chk_some hf
        refine va_iald hx hb hK hP 1 0 rfl rfl (gin_in g14) dX10_mixed_27 ?_
        refine lv_i2l hx hb dX10_mixed_28 rfl ?_
        refine lv_ladd hx hb dX10_mixed_29 ?_
        obtain ⟨x15, e16, hf⟩ := nm_some hf
        refine lv_topel e16 ?_
        refine lv_lstore (lv' := [(5, .long x15), (0, .ref h_t), (3, .int p2), (4, .int p3), (7, .int x9)]) hx hb dX10_mixed_30 hl (by decide) rfl (fun ls hl => ?_)
        refine lv_iinc (v := (x9 + (1 : Int32))) (lv' := [(7, .int (x9 + (1 : Int32))), (5, .long x15), (0, .ref h_t), (3, .int p2), (4, .int p3)]) hx hb dX10_mixed_32 hl (k := 4) rfl rfl (by decide) rfl (fun ls hl => ?_)
        refine lv_goto (tgt := 6) hx hb dX10_mixed_35 (by decide) ?_
        exact ih10 _ _ _ hf hX12 _ _ hP hD hS _ (lv_sub hl [2, 3, 4, 1, 0] rfl)
  obtain ⟨x7, hg, hf⟩ := bd1_some hf
  refine L17 FU _ _ _ hg ?_ _ _ hP hD hS _ (lv_sub hl [2, 4, 5, 1, 0] rfl)
  · intro H locs hP hD hS ls hl
    refine lv_lload hx hb dX10_mixed_38 (lv_at hl 0 rfl) ?_
    obtain rfl := inj1 hf
    subst hQ
    exact CM_lret hx hb hr hlocks hAe hP hD hS dX10_mixed_40
