def rmX10_sure : Room := { frames := 5, cells := 0, slots := 0, locals := 112 }
abbrev wqX10_sure : List Cond := Cond.code yX10_sure cX10_sure 4 (some .int) :: tG
set_option maxHeartbeats 4000000 in
set_option maxRecDepth 100000 in
theorem c_X10_sure (l : Launch) (dC : Nat → ClassId) (dI : Nat → Nat → Nat) (cI cZ : ClassId) (te : Nat → Nat) (h_t : Nat) (h_t_book : Nat) (h_t_images : Nat) (h_t_kept : Nat) (h_t_aside : Nat) (h_t_far : Nat) (h_t_then : Nat) (h_t_row : Nat) (h_t_mays : Nat) (h_t_firstRow : Nat) (h_t_low : Nat) (h_t_high : Nat) (h_t_lowOne : Nat) (h_t_highOne : Nat) (h_t_ways : Nat) (h_t_left : Nat) (h_t_text : Nat) (h_t_verbs : Nat) (h_t_nums : Nat) (t_noOlder : Int32) (t_thanThis : Int32) (t_known : Int32) (t_knownAge : Int32) (t_moved : Int32) (t_met : Int32) (t_hours : Int32) (t_greatest : Int32) (t_typed : Int32) (t_at : Int32) (t_start : Int32) (t_token : Int32) (t_value : Int32) (t_items : Int32) (t_book : Nat → Int32) (t_low : Nat → Int32) (t_high : Nat → Int32) (p1 : Int32) (p2 : Int32) (o0 : Int32) (o1 : Int32) (o2 : Int32) (o3 : Int32) (o4 : Int32) (o5 : Nat → Int32) (o6 : Nat → Int32) (hf : f_X10_sure t_noOlder t_thanThis t_known t_knownAge t_moved t_book t_low t_high p1 p2 = some (o0, o1, o2, o3, o4, o5, o6)) : CM l yX10_sure wqX10_sure rmX10_sure (kS te) dC dI cI cZ [.ref h_t, .int p1, .int p2] [(h_t, .inr (8, fX10 h_t_book h_t_images h_t_kept h_t_aside h_t_far h_t_then h_t_row h_t_mays h_t_firstRow h_t_low h_t_high t_noOlder t_thanThis t_known t_knownAge t_moved h_t_lowOne h_t_highOne h_t_ways t_met h_t_left t_hours t_greatest h_t_text t_typed t_at t_start t_token t_value h_t_verbs h_t_nums t_items)), (h_t_book, .inl (cI, 460, .inl t_book)), (h_t_low, .inl (cI, 8, .inl t_low)), (h_t_high, .inl (cI, 8, .inl t_high))] [(h_t, .inr (8, fX10 h_t_book h_t_images h_t_kept h_t_aside h_t_far h_t_then h_t_row h_t_mays h_t_firstRow h_t_low h_t_high o1 o2 o3 t_knownAge o4 h_t_lowOne h_t_highOne h_t_ways t_met h_t_left t_hours t_greatest h_t_text t_typed t_at t_start t_token t_value h_t_verbs h_t_nums t_items)), (h_t_book, .inl (cI, 460, .inl t_book)), (h_t_low, .inl (cI, 8, .inl o5)), (h_t_high, .inl (cI, 8, .inl o6))] (some (.int o0)) := by
  refine CM_of (cc := cX10_sure) (maxL := 4) (ret := (some .int)) (by decide +kernel) rfl (Nat.le_of_ble_eq_true rfl) ?_
  intro p e s m args below meth c A Q hx hb hr hml hown hts hlocks hA hK hP hD hS hE hQ hAe ls hl
  have hown : s.vm.findClass RX10 = some m.cls := hown
  have hl : lv_has ls 4 [(0, .ref h_t), (1, .int p1), (2, .int p2)] := hl
  unfold f_X10_sure at hf
  refine lv_aload_n hx hb dX10_sure_0 rfl (lv_at hl 0 rfl) ?_
  refine lv_iconst (v := (3 : Int32)) hx hb dX10_sure_1 (by decide) ?_
  refine lv_iload_n hx hb dX10_sure_2 rfl (lv_at hl 1 rfl) ?_
  obtain ⟨r1, hg2, hf⟩ := bd1_some hf
  refine CM_callV (C := RX10) (As := [.int (3 : Int32), .int p1]) (rest := []) (wc := [(h_t, .inr (8, fX10 h_t_book h_t_images h_t_kept h_t_aside h_t_far h_t_then h_t_row h_t_mays h_t_firstRow h_t_low h_t_high t_noOlder t_thanThis t_known t_knownAge t_moved h_t_lowOne h_t_highOne h_t_ways t_met h_t_left t_hours t_greatest h_t_text t_typed t_at t_start t_token t_value h_t_verbs h_t_nums t_items)), (h_t_book, .inl (cI, 460, .inl t_book))]) (w1 := [(h_t, .inr (8, fX10 h_t_book h_t_images h_t_kept h_t_aside h_t_far h_t_then h_t_row h_t_mays h_t_firstRow h_t_low h_t_high t_noOlder t_thanThis t_known t_knownAge t_moved h_t_lowOne h_t_highOne h_t_ways t_met h_t_left t_hours t_greatest h_t_text t_typed t_at t_start t_token t_value h_t_verbs h_t_nums t_items)), (h_t_book, .inl (cI, 460, .inl t_book))]) (wr := [(h_t_low, .inl (cI, 8, .inl t_low)), (h_t_high, .inl (cI, 8, .inl t_high))]) (wo := [(h_t, .inr (8, fX10 h_t_book h_t_images h_t_kept h_t_aside h_t_far h_t_then h_t_row h_t_mays h_t_firstRow h_t_low h_t_high t_noOlder t_thanThis t_known t_knownAge t_moved h_t_lowOne h_t_highOne h_t_ways t_met h_t_left t_hours t_greatest h_t_text t_typed t_at t_start t_token t_value h_t_verbs h_t_nums t_items)), (h_t_book, .inl (cI, 460, .inl t_book)), (h_t_low, .inl (cI, 8, .inl t_low)), (h_t_high, .inl (cI, 8, .inl t_high))]) (v := (some (.int r1))) ⟨hx, hb, hml, hown, hts⟩ (c_X10_is l dC dI cI cZ te h_t h_t_book h_t_images h_t_kept h_t_aside h_t_far h_t_then h_t_row h_t_mays h_t_firstRow h_t_low h_t_high h_t_lowOne h_t_highOne h_t_ways h_t_left h_t_text h_t_verbs h_t_nums t_noOlder t_thanThis t_known t_knownAge t_moved t_met t_hours t_greatest t_typed t_at t_start t_token t_value t_items t_book (3 : Int32) p1 r1 hg2) (cwV 2 hts (gV kw_205 kw_206 kw_207 kw_159 kw_208) rfl rfl rfl (by decide +kernel) ⟨Nat.le_of_ble_eq_true rfl, Nat.le_of_ble_eq_true rfl⟩) (kS_env te) hK hP hD hS hA hE [0, 1] [2, 3] [2, 3, 0, 1] rfl rfl (by decide) (by decide) (by decide) (by decide) rfl 0 8 rfl rfl rfl rfl hl.1 rfl (Nat.le_of_ble_eq_true rfl) dX10_sure_3 ⟨Nat.zero_le _, Nat.zero_le _⟩ (fun H locs hP hD hS => ?_)
  show W p l e rmX10_sure s m args below meth c H locs 0 0 Q (F0 m 6 ls [.int r1])
  refine lv_if_eq (tgt := 23) hx hb dX10_sure_6 (by decide) (fun c3 => ?_) (fun c3 => ?_)
  · replace hf := ifp c3 hf
    refine lv_bipush (v := (-2 : Int32)) hx hb dX10_sure_23 (by decide) ?_
    obtain ⟨rfl, rfl, rfl, rfl, rfl, rfl, rfl⟩ := inj7 hf
    subst hQ
    exact CM_iret hx hb hr rfl hlocks hAe hP hD hS dX10_sure_25
  · replace hf := ifn c3 hf
    refine lv_aload_n hx hb dX10_sure_9 rfl (lv_at hl 0 rfl) ?_
    refine lv_iconst (v := (3 : Int32)) hx hb dX10_sure_10 (by decide) ?_
    refine lv_iload_n hx hb dX10_sure_11 rfl (lv_at hl 2 rfl) ?_
    obtain ⟨r4, hg5, hf⟩ := bd1_some hf
    refine CM_callV (C := RX10) (As := [.int (3 : Int32), .int p2]) (rest := []) (wc := [(h_t, .inr (8, fX10 h_t_book h_t_images h_t_kept h_t_aside h_t_far h_t_then h_t_row h_t_mays h_t_firstRow h_t_low h_t_high t_noOlder t_thanThis t_known t_knownAge t_moved h_t_lowOne h_t_highOne h_t_ways t_met h_t_left t_hours t_greatest h_t_text t_typed t_at t_start t_token t_value h_t_verbs h_t_nums t_items)), (h_t_book, .inl (cI, 460, .inl t_book))]) (w1 := [(h_t, .inr (8, fX10 h_t_book h_t_images h_t_kept h_t_aside h_t_far h_t_then h_t_row h_t_mays h_t_firstRow h_t_low h_t_high t_noOlder t_thanThis t_known t_knownAge t_moved h_t_lowOne h_t_highOne h_t_ways t_met h_t_left t_hours t_greatest h_t_text t_typed t_at t_start t_token t_value h_t_verbs h_t_nums t_items)), (h_t_book, .inl (cI, 460, .inl t_book))]) (wr := [(h_t_low, .inl (cI, 8, .inl t_low)), (h_t_high, .inl (cI, 8, .inl t_high))]) (wo := [(h_t, .inr (8, fX10 h_t_book h_t_images h_t_kept h_t_aside h_t_far h_t_then h_t_row h_t_mays h_t_firstRow h_t_low h_t_high t_noOlder t_thanThis t_known t_knownAge t_moved h_t_lowOne h_t_highOne h_t_ways t_met h_t_left t_hours t_greatest h_t_text t_typed t_at t_start t_token t_value h_t_verbs h_t_nums t_items)), (h_t_book, .inl (cI, 460, .inl t_book)), (h_t_low, .inl (cI, 8, .inl t_low)), (h_t_high, .inl (cI, 8, .inl t_high))]) (v := (some (.int r4))) ⟨hx, hb, hml, hown, hts⟩ (c_X10_is l dC dI cI cZ te h_t h_t_book h_t_images h_t_kept h_t_aside h_t_far h_t_then h_t_row h_t_mays h_t_firstRow h_t_low h_t_high h_t_lowOne h_t_highOne h_t_ways h_t_left h_t_text h_t_verbs h_t_nums t_noOlder t_thanThis t_known t_knownAge t_moved t_met t_hours t_greatest t_typed t_at t_start t_token t_value t_items t_book (3 : Int32) p2 r4 hg5) (cwV 2 hts (gV kw_205 kw_206 kw_207 kw_159 kw_208) rfl rfl rfl (by decide +kernel) ⟨Nat.le_of_ble_eq_true rfl, Nat.le_of_ble_eq_true rfl⟩) (kS_env te) hK hP hD hS hA hE [0, 1] [2, 3] [2, 3, 0, 1] rfl rfl (by decide) (by decide) (by decide) (by decide) rfl 0 8 rfl rfl rfl rfl hl.1 rfl (Nat.le_of_ble_eq_true rfl) dX10_sure_12 ⟨Nat.zero_le _, Nat.zero_le _⟩ (fun H locs hP hD hS => ?_)
    show W p l e rmX10_sure s m args below meth c H locs 0 0 Q (F0 m 15 ls [.int r4])
    refine lv_if_eq (tgt := 23) hx hb dX10_sure_15 (by decide) (fun c6 => ?_) (fun c6 => ?_)
    · replace hf := ifp c6 hf
      refine lv_bipush (v := (-2 : Int32)) hx hb dX10_sure_23 (by decide) ?_
      obtain ⟨rfl, rfl, rfl, rfl, rfl, rfl, rfl⟩ := inj7 hf
      subst hQ
      exact CM_iret hx hb hr rfl hlocks hAe hP hD hS dX10_sure_25
    · replace hf := ifn c6 hf
      refine lv_iload_n hx hb dX10_sure_18 rfl (lv_at hl 1 rfl) ?_
      refine lv_iload_n hx hb dX10_sure_19 rfl (lv_at hl 2 rfl) ?_
      refine lv_icmp_ne (tgt := 26) hx hb dX10_sure_20 (by decide) (fun c7 => ?_) (fun c7 => ?_)
      · replace hf := ifn c7 hf
        refine lv_aload_n hx hb dX10_sure_26 rfl (lv_at hl 0 rfl) ?_
        obtain ⟨r8, x9, x10, x11, y12, y13, hg14, hf⟩ := bd6_some hf
        refine CM_callV (C := RX10) (As := []) (rest := []) (wc := [(h_t, .inr (8, fX10 h_t_book h_t_images h_t_kept h_t_aside h_t_far h_t_then h_t_row h_t_mays h_t_firstRow h_t_low h_t_high t_noOlder t_thanThis t_known t_knownAge t_moved h_t_lowOne h_t_highOne h_t_ways t_met h_t_left t_hours t_greatest h_t_text t_typed t_at t_start t_token t_value h_t_verbs h_t_nums t_items)), (h_t_book, .inl (cI, 460, .inl t_book)), (h_t_low, .inl (cI, 8, .inl t_low)), (h_t_high, .inl (cI, 8, .inl t_high))]) (w1 := [(h_t, .inr (8, fX10 h_t_book h_t_images h_t_kept h_t_aside h_t_far h_t_then h_t_row h_t_mays h_t_firstRow h_t_low h_t_high x9 t_thanThis x10 t_knownAge x11 h_t_lowOne h_t_highOne h_t_ways t_met h_t_left t_hours t_greatest h_t_text t_typed t_at t_start t_token t_value h_t_verbs h_t_nums t_items)), (h_t_book, .inl (cI, 460, .inl t_book)), (h_t_low, .inl (cI, 8, .inl y12)), (h_t_high, .inl (cI, 8, .inl y13))]) (wr := []) (wo := [(h_t, .inr (8, fX10 h_t_book h_t_images h_t_kept h_t_aside h_t_far h_t_then h_t_row h_t_mays h_t_firstRow h_t_low h_t_high x9 t_thanThis x10 t_knownAge x11 h_t_lowOne h_t_highOne h_t_ways t_met h_t_left t_hours t_greatest h_t_text t_typed t_at t_start t_token t_value h_t_verbs h_t_nums t_items)), (h_t_book, .inl (cI, 460, .inl t_book)), (h_t_low, .inl (cI, 8, .inl y12)), (h_t_high, .inl (cI, 8, .inl y13))]) (v := (some (.int r8))) ⟨hx, hb, hml, hown, hts⟩ (c_X10_findFewest l dC dI cI cZ te h_t h_t_book h_t_images h_t_kept h_t_aside h_t_far h_t_then h_t_row h_t_mays h_t_firstRow h_t_low h_t_high h_t_lowOne h_t_highOne h_t_ways h_t_left h_t_text h_t_verbs h_t_nums t_noOlder t_thanThis t_known t_knownAge t_moved t_met t_hours t_greatest t_typed t_at t_start t_token t_value t_items t_book t_low t_high r8 x9 x10 x11 y12 y13 hg14) (cwV 0 hts (gV kw_270 kw_271 kw_272 kw_159 kw_273) rfl rfl rfl (by decide +kernel) ⟨Nat.le_of_ble_eq_true rfl, Nat.le_of_ble_eq_true rfl⟩) (kS_env te) hK hP hD hS hA hE [0, 1, 2, 3] [] [0, 1, 2, 3] rfl rfl (by decide) (by decide) (by decide) (by decide) rfl 0 8 rfl rfl rfl rfl hl.1 rfl (Nat.le_of_ble_eq_true rfl) dX10_sure_27 ⟨Nat.zero_le _, Nat.zero_le _⟩ (fun H locs hP hD hS => ?_)
        show W p l e rmX10_sure s m args below meth c H locs 0 0 Q (F0 m 30 ls [.int r8])
        refine lv_istore_n (lv' := [(3, .int r8), (0, .ref h_t), (1, .int p1), (2, .int p2)]) hx hb dX10_sure_30 rfl hl (by decide) rfl (fun ls hl => ?_)
        refine lv_iload_n hx hb dX10_sure_31 rfl (lv_at hl 0 rfl) ?_
        refine lv_if_ge (tgt := 38) hx hb dX10_sure_32 (by decide) (fun c15 => ?_) (fun c15 => ?_)
        · replace hf := ifp c15 hf
          refine lv_aload_n hx hb dX10_sure_38 rfl (lv_at hl 1 rfl) ?_
          refine lv_iconst (v := (-1 : Int32)) hx hb dX10_sure_39 (by decide) ?_
          refine va_put (D := (dC, dI)) (ci := 8) (v := .int (-1 : Int32)) (ty := tyX10 13) (C := RX10) (T := TX10) (N := 32) hx hb hts (in1 tw_X10) tyX10 tyX10_ok nmX10 hown hK hP hD hS 0 rfl rfl 13 (by decide) (hts _ (List.mem_cons_of_mem _ kw_247)) (fun _ h9 => h9) rfl (tyX10_ok 13 (by decide)) rfl rfl (Nat.le_of_ble_eq_true rfl) dX10_sure_40 (fun H locs hP hD hS => ?_)
          have hP : va_P (dC, dI) vwCl [(h_t, .inr (8, fX10 h_t_book h_t_images h_t_kept h_t_aside h_t_far h_t_then h_t_row h_t_mays h_t_firstRow h_t_low h_t_high x9 t_thanThis (-1 : Int32) t_knownAge x11 h_t_lowOne h_t_highOne h_t_ways t_met h_t_left t_hours t_greatest h_t_text t_typed t_at t_start t_token t_value h_t_verbs h_t_nums t_items)), (h_t_book, .inl (cI, 460, .inl t_book)), (h_t_low, .inl (cI, 8, .inl y12)), (h_t_high, .inl (cI, 8, .inl y13))] H := hP
          have hD : va_D A [(h_t, .inr (8, fX10 h_t_book h_t_images h_t_kept h_t_aside h_t_far h_t_then h_t_row h_t_mays h_t_firstRow h_t_low h_t_high x9 t_thanThis (-1 : Int32) t_knownAge x11 h_t_lowOne h_t_highOne h_t_ways t_met h_t_left t_hours t_greatest h_t_text t_typed t_at t_start t_token t_value h_t_verbs h_t_nums t_items)), (h_t_book, .inl (cI, 460, .inl t_book)), (h_t_low, .inl (cI, 8, .inl y12)), (h_t_high, .inl (cI, 8, .inl y13))] := hD
          refine lv_aload_n hx hb dX10_sure_43 rfl (lv_at hl 1 rfl) ?_
          refine lv_iload_n hx hb dX10_sure_44 rfl (lv_at hl 3 rfl) ?_
          refine va_put (D := (dC, dI)) (ci := 8) (v := .int p2) (ty := tyX10 11) (C := RX10) (T := TX10) (N := 32) hx hb hts (in1 tw_X10) tyX10 tyX10_ok nmX10 hown hK hP hD hS 0 rfl rfl 11 (by decide) (hts _ (List.mem_cons_of_mem _ kw_253)) (fun _ h9 => h9) rfl (tyX10_ok 11 (by decide)) rfl rfl (Nat.le_of_ble_eq_true rfl) dX10_sure_45 (fun H locs hP hD hS => ?_)
          have hP : va_P (dC, dI) vwCl [(h_t, .inr (8, fX10 h_t_book h_t_images h_t_kept h_t_aside h_t_far h_t_then h_t_row h_t_mays h_t_firstRow h_t_low h_t_high p2 t_thanThis (-1 : Int32) t_knownAge x11 h_t_lowOne h_t_highOne h_t_ways t_met h_t_left t_hours t_greatest h_t_text t_typed t_at t_start t_token t_value h_t_verbs h_t_nums t_items)), (h_t_book, .inl (cI, 460, .inl t_book)), (h_t_low, .inl (cI, 8, .inl y12)), (h_t_high, .inl (cI, 8, .inl y13))] H := hP
          have hD : va_D A [(h_t, .inr (8, fX10 h_t_book h_t_images h_t_kept h_t_aside h_t_far h_t_then h_t_row h_t_mays h_t_firstRow h_t_low h_t_high p2 t_thanThis (-1 : Int32) t_knownAge x11 h_t_lowOne h_t_highOne h_t_ways t_met h_t_left t_hours t_greatest h_t_text t_typed t_at t_start t_token t_value h_t_verbs h_t_nums t_items)), (h_t_book, .inl (cI, 460, .inl t_book)), (h_t_low, .inl (cI, 8, .inl y12)), (h_t_high, .inl (cI, 8, .inl y13))] := hD
          refine lv_aload_n hx hb dX10_sure_48 rfl (lv_at hl 1 rfl) ?_
          refine lv_iload_n hx hb dX10_sure_49 rfl (lv_at hl 2 rfl) ?_
          refine va_put (D := (dC, dI)) (ci := 8) (v := .int p1) (ty := tyX10 12) (C := RX10) (T := TX10) (N := 32) hx hb hts (in1 tw_X10) tyX10 tyX10_ok nmX10 hown hK hP hD hS 0 rfl rfl 12 (by decide) (hts _ (List.mem_cons_of_mem _ kw_254)) (fun _ h9 => h9) rfl (tyX10_ok 12 (by decide)) rfl rfl (Nat.le_of_ble_eq_true rfl) dX10_sure_50 (fun H locs hP hD hS => ?_)
          have hP : va_P (dC, dI) vwCl [(h_t, .inr (8, fX10 h_t_book h_t_images h_t_kept h_t_aside h_t_far h_t_then h_t_row h_t_mays h_t_firstRow h_t_low h_t_high p2 p1 (-1 : Int32) t_knownAge x11 h_t_lowOne h_t_highOne h_t_ways t_met h_t_left t_hours t_greatest h_t_text t_typed t_at t_start t_token t_value h_t_verbs h_t_nums t_items)), (h_t_book, .inl (cI, 460, .inl t_book)), (h_t_low, .inl (cI, 8, .inl y12)), (h_t_high, .inl (cI, 8, .inl y13))] H := hP
          have hD : va_D A [(h_t, .inr (8, fX10 h_t_book h_t_images h_t_kept h_t_aside h_t_far h_t_then h_t_row h_t_mays h_t_firstRow h_t_low h_t_high p2 p1 (-1 : Int32) t_knownAge x11 h_t_lowOne h_t_highOne h_t_ways t_met h_t_left t_hours t_greatest h_t_text t_typed t_at t_start t_token t_value h_t_verbs h_t_nums t_items)), (h_t_book, .inl (cI, 460, .inl t_book)), (h_t_low, .inl (cI, 8, .inl y12)), (h_t_high, .inl (cI, 8, .inl y13))] := hD
          refine lv_aload_n hx hb dX10_sure_53 rfl (lv_at hl 1 rfl) ?_
          refine lv_aload_n hx hb dX10_sure_54 rfl (lv_at hl 1 rfl) ?_
          obtain ⟨r16, hg17, hf⟩ := bd1_some hf
          refine CM_callV (C := RX10) (As := []) (rest := [.ref h_t]) (wc := [(h_t, .inr (8, fX10 h_t_book h_t_images h_t_kept h_t_aside h_t_far h_t_then h_t_row h_t_mays h_t_firstRow h_t_low h_t_high p2 p1 (-1 : Int32) t_knownAge x11 h_t_lowOne h_t_highOne h_t_ways t_met h_t_left t_hours t_greatest h_t_text t_typed t_at t_start t_token t_value h_t_verbs h_t_nums t_items)), (h_t_book, .inl (cI, 460, .inl t_book))]) (w1 := [(h_t, .inr (8, fX10 h_t_book h_t_images h_t_kept h_t_aside h_t_far h_t_then h_t_row h_t_mays h_t_firstRow h_t_low h_t_high p2 p1 (-1 : Int32) t_knownAge x11 h_t_lowOne h_t_highOne h_t_ways t_met h_t_left t_hours t_greatest h_t_text t_typed t_at t_start t_token t_value h_t_verbs h_t_nums t_items)), (h_t_book, .inl (cI, 460, .inl t_book))]) (wr := [(h_t_low, .inl (cI, 8, .inl y12)), (h_t_high, .inl (cI, 8, .inl y13))]) (wo := [(h_t, .inr (8, fX10 h_t_book h_t_images h_t_kept h_t_aside h_t_far h_t_then h_t_row h_t_mays h_t_firstRow h_t_low h_t_high p2 p1 (-1 : Int32) t_knownAge x11 h_t_lowOne h_t_highOne h_t_ways t_met h_t_left t_hours t_greatest h_t_text t_typed t_at t_start t_token t_value h_t_verbs h_t_nums t_items)), (h_t_book, .inl (cI, 460, .inl t_book)), (h_t_low, .inl (cI, 8, .inl y12)), (h_t_high, .inl (cI, 8, .inl y13))]) (v := (some (.int r16))) ⟨hx, hb, hml, hown, hts⟩ (c_X10_all l dC dI cI cZ te h_t h_t_book h_t_images h_t_kept h_t_aside h_t_far h_t_then h_t_row h_t_mays h_t_firstRow h_t_low h_t_high h_t_lowOne h_t_highOne h_t_ways h_t_left h_t_text h_t_verbs h_t_nums p2 p1 (-1 : Int32) t_knownAge x11 t_met t_hours t_greatest t_typed t_at t_start t_token t_value t_items t_book r16 hg17) (cwV 0 hts (gV kw_263 kw_264 kw_265 kw_159 kw_266) rfl rfl rfl (by decide +kernel) ⟨Nat.le_of_ble_eq_true rfl, Nat.le_of_ble_eq_true rfl⟩) (kS_env te) hK hP hD hS hA hE [0, 1] [2, 3] [2, 3, 0, 1] rfl rfl (by decide) (by decide) (by decide) (by decide) rfl 0 8 rfl rfl rfl rfl hl.1 rfl (Nat.le_of_ble_eq_true rfl) dX10_sure_55 ⟨Nat.zero_le _, Nat.zero_le _⟩ (fun H locs hP hD hS => ?_)
          show W p l e rmX10_sure s m args below meth c H locs 0 0 Q (F0 m 58 ls [.int r16, .ref h_t])
          refine lv_iload_n hx hb dX10_sure_58 rfl (lv_at hl 0 rfl) ?_
          refine lv_iconst (v := (-1 : Int32)) hx hb dX10_sure_59 (by decide) ?_
          refine lv_ixor hx hb dX10_sure_60 ?_
          refine lv_iand hx hb dX10_sure_61 ?_
          obtain ⟨r18, x19, y20, y21, hg22, hf⟩ := bd4_some hf
          refine CM_callV (C := RX10) (As := [.int (r16 &&& (r8 ^^^ (-1 : Int32)))]) (rest := []) (wc := [(h_t, .inr (8, fX10 h_t_book h_t_images h_t_kept h_t_aside h_t_far h_t_then h_t_row h_t_mays h_t_firstRow h_t_low h_t_high p2 p1 (-1 : Int32) t_knownAge x11 h_t_lowOne h_t_highOne h_t_ways t_met h_t_left t_hours t_greatest h_t_text t_typed t_at t_start t_token t_value h_t_verbs h_t_nums t_items)), (h_t_low, .inl (cI, 8, .inl y12)), (h_t_high, .inl (cI, 8, .inl y13)), (h_t_book, .inl (cI, 460, .inl t_book))]) (w1 := [(h_t, .inr (8, fX10 h_t_book h_t_images h_t_kept h_t_aside h_t_far h_t_then h_t_row h_t_mays h_t_firstRow h_t_low h_t_high p2 p1 (-1 : Int32) t_knownAge x19 h_t_lowOne h_t_highOne h_t_ways t_met h_t_left t_hours t_greatest h_t_text t_typed t_at t_start t_token t_value h_t_verbs h_t_nums t_items)), (h_t_low, .inl (cI, 8, .inl y20)), (h_t_high, .inl (cI, 8, .inl y21)), (h_t_book, .inl (cI, 460, .inl t_book))]) (wr := []) (wo := [(h_t, .inr (8, fX10 h_t_book h_t_images h_t_kept h_t_aside h_t_far h_t_then h_t_row h_t_mays h_t_firstRow h_t_low h_t_high p2 p1 (-1 : Int32) t_knownAge x19 h_t_lowOne h_t_highOne h_t_ways t_met h_t_left t_hours t_greatest h_t_text t_typed t_at t_start t_token t_value h_t_verbs h_t_nums t_items)), (h_t_book, .inl (cI, 460, .inl t_book)), (h_t_low, .inl (cI, 8, .inl y20)), (h_t_high, .inl (cI, 8, .inl y21))]) (v := (some (.int r18))) ⟨hx, hb, hml, hown, hts⟩ (c_X10_bounds l dC dI cI cZ te h_t h_t_book h_t_images h_t_kept h_t_aside h_t_far h_t_then h_t_row h_t_mays h_t_firstRow h_t_low h_t_high h_t_lowOne h_t_highOne h_t_ways h_t_left h_t_text h_t_verbs h_t_nums p2 p1 (-1 : Int32) t_knownAge x11 t_met t_hours t_greatest t_typed t_at t_start t_token t_value t_items y12 y13 t_book (r16 &&& (r8 ^^^ (-1 : Int32))) r18 x19 y20 y21 hg22) (cwV 1 hts (gV kw_255 kw_256 kw_257 kw_159 kw_258) rfl rfl rfl (by decide +kernel) ⟨Nat.le_of_ble_eq_true rfl, Nat.le_of_ble_eq_true rfl⟩) (kS_env te) hK hP hD hS hA hE [0, 2, 3, 1] [] [0, 3, 1, 2] rfl rfl (by decide) (by decide) (by decide) (by decide) rfl 0 8 rfl rfl rfl rfl hl.1 rfl (Nat.le_of_ble_eq_true rfl) dX10_sure_62 ⟨Nat.zero_le _, Nat.zero_le _⟩ (fun H locs hP hD hS => ?_)
          show W p l e rmX10_sure s m args below meth c H locs 0 0 Q (F0 m 65 ls [.int r18])
          refine lv_if_eq (tgt := 72) hx hb dX10_sure_65 (by decide) (fun c23 => ?_) (fun c23 => ?_)
          · replace hf := ifp c23 hf
            refine lv_iconst (v := (1 : Int32)) hx hb dX10_sure_72 (by decide) ?_
            obtain ⟨rfl, rfl, rfl, rfl, rfl, rfl, rfl⟩ := inj7 hf
            subst hQ
            exact CM_iret hx hb hr rfl hlocks hAe hP hD hS dX10_sure_73
          · replace hf := ifn c23 hf
            refine lv_iconst (v := (0 : Int32)) hx hb dX10_sure_68 (by decide) ?_
            refine lv_goto (tgt := 73) hx hb dX10_sure_69 (by decide) ?_
            obtain ⟨rfl, rfl, rfl, rfl, rfl, rfl, rfl⟩ := inj7 hf
            subst hQ
            exact CM_iret hx hb hr rfl hlocks hAe hP hD hS dX10_sure_73
        · replace hf := ifn c15 hf
          refine lv_bipush (v := (-5 : Int32)) hx hb dX10_sure_35 (by decide) ?_
          obtain ⟨rfl, rfl, rfl, rfl, rfl, rfl, rfl⟩ := inj7 hf
          subst hQ
          exact CM_iret hx hb hr rfl hlocks hAe hP hD hS dX10_sure_37
      · replace hf := ifp c7 hf
        refine lv_bipush (v := (-2 : Int32)) hx hb dX10_sure_23 (by decide) ?_
        obtain ⟨rfl, rfl, rfl, rfl, rfl, rfl, rfl⟩ := inj7 hf
        subst hQ
        exact CM_iret hx hb hr rfl hlocks hAe hP hD hS dX10_sure_25
def rmX10_core : Room := { frames := 5, cells := 0, slots := 0, locals := 112 }
abbrev wqX10_core : List Cond := Cond.code yX10_core cX10_core 12 (some .int) :: tG
set_option maxHeartbeats 4000000 in
set_option maxRecDepth 100000 in
theorem c_X10_core (l : Launch) (dC : Nat → ClassId) (dI : Nat → Nat → Nat) (cI cZ : ClassId) (te : Nat → Nat) (h_t : Nat) (h_t_book : Nat) (h_t_images : Nat) (h_t_kept : Nat) (h_t_aside : Nat) (h_t_far : Nat) (h_t_then : Nat) (h_t_row : Nat) (h_t_mays : Nat) (h_t_firstRow : Nat) (h_t_low : Nat) (h_t_high : Nat) (h_t_lowOne : Nat) (h_t_highOne : Nat) (h_t_ways : Nat) (h_t_left : Nat) (h_t_text : Nat) (h_t_verbs : Nat) (h_t_nums : Nat) (t_noOlder : Int32) (t_thanThis : Int32) (t_known : Int32) (t_knownAge : Int32) (t_moved : Int32) (t_met : Int32) (t_hours : Int32) (t_greatest : Int32) (t_typed : Int32) (t_at : Int32) (t_start : Int32) (t_token : Int32) (t_value : Int32) (t_items : Int32) (t_book : Nat → Int32) (t_low : Nat → Int32) (t_high : Nat → Int32) (o0 : Int32) (o1 : Int32) (o2 : Int32) (o3 : Int32) (o4 : Int32) (o5 : Nat → Int32) (o6 : Nat → Int32) (hf : f_X10_core t_noOlder t_thanThis t_known t_knownAge t_moved t_book t_low t_high = some (o0, o1, o2, o3, o4, o5, o6)) : CM l yX10_core wqX10_core rmX10_core (kS te) dC dI cI cZ [.ref h_t] [(h_t, .inr (8, fX10 h_t_book h_t_images h_t_kept h_t_aside h_t_far h_t_then h_t_row h_t_mays h_t_firstRow h_t_low h_t_high t_noOlder t_thanThis t_known t_knownAge t_moved h_t_lowOne h_t_highOne h_t_ways t_met h_t_left t_hours t_greatest h_t_text t_typed t_at t_start t_token t_value h_t_verbs h_t_nums t_items)), (h_t_book, .inl (cI, 460, .inl t_book)), (h_t_low, .inl (cI, 8, .inl t_low)), (h_t_high, .inl (cI, 8, .inl t_high))] [(h_t, .inr (8, fX10 h_t_book h_t_images h_t_kept h_t_aside h_t_far h_t_then h_t_row h_t_mays h_t_firstRow h_t_low h_t_high o1 t_thanThis o2 o3 o4 h_t_lowOne h_t_highOne h_t_ways t_met h_t_left t_hours t_greatest h_t_text t_typed t_at t_start t_token t_value h_t_verbs h_t_nums t_items)), (h_t_book, .inl (cI, 460, .inl t_book)), (h_t_low, .inl (cI, 8, .inl o5)), (h_t_high, .inl (cI, 8, .inl o6))] (some (.int o0)) := by
  refine CM_of (cc := cX10_core) (maxL := 12) (ret := (some .int)) (by decide +kernel) rfl (Nat.le_of_ble_eq_true rfl) ?_
  intro p e s m args below meth c A Q hx hb hr hml hown hts hlocks hA hK hP hD hS hE hQ hAe ls hl
  have hown : s.vm.findClass RX10 = some m.cls := hown
  have hl : lv_has ls 12 [(0, .ref h_t)] := hl
  unfold f_X10_core at hf
  refine lv_aload_n hx hb dX10_core_0 rfl (lv_at hl 0 rfl) ?_
  refine va_get (D := (dC, dI)) (ci := 8) (v := .ref h_t_book) (C := RX10) (T := TX10) (N := 32) hx hb hts (in1 tw_X10) hown hK hP 0 rfl rfl 0 (by decide) (hts _ (List.mem_cons_of_mem _ kw_116)) (fun _ h9 => h9) rfl dX10_core_1 ?_
  refine lv_iconst (v := (3 : Int32)) hx hb dX10_core_4 (by decide) ?_
  obtain ⟨g1, hf⟩ := chk_some hf
  refine va_iald hx hb hK hP 1 0 rfl rfl (gin_in g1) dX10_core_5 ?_
  refine lv_if_ne (tgt := 11) hx hb dX10_core_6 (by decide) (fun c2 => ?_) (fun c2 => ?_)
  · replace hf := ifn c2 hf
    refine lv_aload_n hx hb dX10_core_11 rfl (lv_at hl 0 rfl) ?_
    obtain ⟨r3, x4, x5, x6, y7, y8, hg9, hf⟩ := bd6_some hf
    refine CM_callV (C := RX10) (As := []) (rest := []) (wc := [(h_t, .inr (8, fX10 h_t_book h_t_images h_t_kept h_t_aside h_t_far h_t_then h_t_row h_t_mays h_t_firstRow h_t_low h_t_high t_noOlder t_thanThis t_known t_knownAge t_moved h_t_lowOne h_t_highOne h_t_ways t_met h_t_left t_hours t_greatest h_t_text t_typed t_at t_start t_token t_value h_t_verbs h_t_nums t_items)), (h_t_book, .inl (cI, 460, .inl t_book)), (h_t_low, .inl (cI, 8, .inl t_low)), (h_t_high, .inl (cI, 8, .inl t_high))]) (w1 := [(h_t, .inr (8, fX10 h_t_book h_t_images h_t_kept h_t_aside h_t_far h_t_then h_t_row h_t_mays h_t_firstRow h_t_low h_t_high x4 t_thanThis x5 t_knownAge x6 h_t_lowOne h_t_highOne h_t_ways t_met h_t_left t_hours t_greatest h_t_text t_typed t_at t_start t_token t_value h_t_verbs h_t_nums t_items)), (h_t_book, .inl (cI, 460, .inl t_book)), (h_t_low, .inl (cI, 8, .inl y7)), (h_t_high, .inl (cI, 8, .inl y8))]) (wr := []) (wo := [(h_t, .inr (8, fX10 h_t_book h_t_images h_t_kept h_t_aside h_t_far h_t_then h_t_row h_t_mays h_t_firstRow h_t_low h_t_high x4 t_thanThis x5 t_knownAge x6 h_t_lowOne h_t_highOne h_t_ways t_met h_t_left t_hours t_greatest h_t_text t_typed t_at t_start t_token t_value h_t_verbs h_t_nums t_items)), (h_t_book, .inl (cI, 460, .inl t_book)), (h_t_low, .inl (cI, 8, .inl y7)), (h_t_high, .inl (cI, 8, .inl y8))]) (v := (some (.int r3))) ⟨hx, hb, hml, hown, hts⟩ (c_X10_findFewest l dC dI cI cZ te h_t h_t_book h_t_images h_t_kept h_t_aside h_t_far h_t_then h_t_row h_t_mays h_t_firstRow h_t_low h_t_high h_t_lowOne h_t_highOne h_t_ways h_t_left h_t_text h_t_verbs h_t_nums t_noOlder t_thanThis t_known t_knownAge t_moved t_met t_hours t_greatest t_typed t_at t_start t_token t_value t_items t_book t_low t_high r3 x4 x5 x6 y7 y8 hg9) (cwV 0 hts (gV kw_270 kw_271 kw_272 kw_159 kw_273) rfl rfl rfl (by decide +kernel) ⟨Nat.le_of_ble_eq_true rfl, Nat.le_of_ble_eq_true rfl⟩) (kS_env te) hK hP hD hS hA hE [0, 1, 2, 3] [] [0, 1, 2, 3] rfl rfl (by decide) (by decide) (by decide) (by decide) rfl 0 8 rfl rfl rfl rfl hl.1 rfl (Nat.le_of_ble_eq_true rfl) dX10_core_12 ⟨Nat.zero_le _, Nat.zero_le _⟩ (fun H locs hP hD hS => ?_)
    show W p l e rmX10_core s m args below meth c H locs 0 0 Q (F0 m 15 ls [.int r3])
    refine lv_istore_n (lv' := [(1, .int r3), (0, .ref h_t)]) hx hb dX10_core_15 rfl hl (by decide) rfl (fun ls hl => ?_)
    refine lv_iload_n hx hb dX10_core_16 rfl (lv_at hl 0 rfl) ?_
    refine lv_if_ge (tgt := 23) hx hb dX10_core_17 (by decide) (fun c10 => ?_) (fun c10 => ?_)
    · replace hf := ifp c10 hf
      refine lv_aload_n hx hb dX10_core_23 rfl (lv_at hl 1 rfl) ?_
      obtain ⟨r11, hg12, hf⟩ := bd1_some hf
      refine CM_callV (C := RX10) (As := []) (rest := []) (wc := [(h_t, .inr (8, fX10 h_t_book h_t_images h_t_kept h_t_aside h_t_far h_t_then h_t_row h_t_mays h_t_firstRow h_t_low h_t_high x4 t_thanThis x5 t_knownAge x6 h_t_lowOne h_t_highOne h_t_ways t_met h_t_left t_hours t_greatest h_t_text t_typed t_at t_start t_token t_value h_t_verbs h_t_nums t_items)), (h_t_book, .inl (cI, 460, .inl t_book))]) (w1 := [(h_t, .inr (8, fX10 h_t_book h_t_images h_t_kept h_t_aside h_t_far h_t_then h_t_row h_t_mays h_t_firstRow h_t_low h_t_high x4 t_thanThis x5 t_knownAge x6 h_t_lowOne h_t_highOne h_t_ways t_met h_t_left t_hours t_greatest h_t_text t_typed t_at t_start t_token t_value h_t_verbs h_t_nums t_items)), (h_t_book, .inl (cI, 460, .inl t_book))]) (wr := [(h_t_low, .inl (cI, 8, .inl y7)), (h_t_high, .inl (cI, 8, .inl y8))]) (wo := [(h_t, .inr (8, fX10 h_t_book h_t_images h_t_kept h_t_aside h_t_far h_t_then h_t_row h_t_mays h_t_firstRow h_t_low h_t_high x4 t_thanThis x5 t_knownAge x6 h_t_lowOne h_t_highOne h_t_ways t_met h_t_left t_hours t_greatest h_t_text t_typed t_at t_start t_token t_value h_t_verbs h_t_nums t_items)), (h_t_book, .inl (cI, 460, .inl t_book)), (h_t_low, .inl (cI, 8, .inl y7)), (h_t_high, .inl (cI, 8, .inl y8))]) (v := (some (.int r11))) ⟨hx, hb, hml, hown, hts⟩ (c_X10_all l dC dI cI cZ te h_t h_t_book h_t_images h_t_kept h_t_aside h_t_far h_t_then h_t_row h_t_mays h_t_firstRow h_t_low h_t_high h_t_lowOne h_t_highOne h_t_ways h_t_left h_t_text h_t_verbs h_t_nums x4 t_thanThis x5 t_knownAge x6 t_met t_hours t_greatest t_typed t_at t_start t_token t_value t_items t_book r11 hg12) (cwV 0 hts (gV kw_263 kw_264 kw_265 kw_159 kw_266) rfl rfl rfl (by decide +kernel) ⟨Nat.le_of_ble_eq_true rfl, Nat.le_of_ble_eq_true rfl⟩) (kS_env te) hK hP hD hS hA hE [0, 1] [2, 3] [2, 3, 0, 1] rfl rfl (by decide) (by decide) (by decide) (by decide) rfl 0 8 rfl rfl rfl rfl hl.1 rfl (Nat.le_of_ble_eq_true rfl) dX10_core_24 ⟨Nat.zero_le _, Nat.zero_le _⟩ (fun H locs hP hD hS => ?_)
      show W p l e rmX10_core s m args below meth c H locs 0 0 Q (F0 m 27 ls [.int r11])
      refine lv_iload_n hx hb dX10_core_27 rfl (lv_at hl 0 rfl) ?_
      refine lv_iconst (v := (-1 : Int32)) hx hb dX10_core_28 (by decide) ?_
      refine lv_ixor hx hb dX10_core_29 ?_
      refine lv_iand hx hb dX10_core_30 ?_
      obtain ⟨x13, e14, hf⟩ := nm_some hf
      refine lv_tope e14 ?_
      refine lv_istore_n (lv' := [(2, .int x13), (1, .int r3), (0, .ref h_t)]) hx hb dX10_core_31 rfl hl (by decide) rfl (fun ls hl => ?_)
      refine lv_iconst (v := (-1 : Int32)) hx hb dX10_core_32 (by decide) ?_
      refine lv_istore_n (lv' := [(3, .int (-1 : Int32)), (2, .int x13), (1, .int r3), (0, .ref h_t)]) hx hb dX10_core_33 rfl hl (by decide) rfl (fun ls hl => ?_)
      refine lv_ldc (v := (1000000 : Int32)) hx hb hown (hts _ (List.mem_cons_of_mem _ kw_192)) dX10_core_34 ?_
      refine lv_istore (lv' := [(4, .int (1000000 : Int32)), (3, .int (-1 : Int32)), (2, .int x13), (1, .int r3), (0, .ref h_t)]) hx hb dX10_core_36 hl (by decide) rfl (fun ls hl => ?_)
      refine lv_iconst (v := (0 : Int32)) hx hb dX10_core_38 (by decide) ?_
      refine lv_istore (lv' := [(5, .int (0 : Int32)), (4, .int (1000000 : Int32)), (3, .int (-1 : Int32)), (2, .int x13), (1, .int r3), (0, .ref h_t)]) hx hb dX10_core_39 hl (by decide) rfl (fun ls hl => ?_)
      have L229 : ∀ (fu134 : Nat) (y124 : Nat → Int32) (y125 : Nat → Int32) (x126 : Int32) (x127 : Int32) (x128 : Int32) (x129 : Int32) (x130 : Int32) (x131 : Int32) (x132 : Int32) (y117 : Nat → Int32) (y118 : Nat → Int32) (x119 : Int32) (x120 : Int32) (x121 : Int32) (x122 : Int32) (x123 : Int32), f_X10_core_L9 t_book t_thanThis x13 fu134 y124 y125 x126 x127 x128 x129 x130 x131 x132 = some (y117, y118, x119, x120, x121, x122, x123) → (∀ (H : Heap) (locs : List Loc), va_P (dC, dI) vwCl [(h_t, .inr (8, fX10 h_t_book h_t_images h_t_kept h_t_aside h_t_far h_t_then h_t_row h_t_mays h_t_firstRow h_t_low h_t_high x119 t_thanThis x120 x121 x122 h_t_lowOne h_t_highOne h_t_ways t_met h_t_left t_hours t_greatest h_t_text t_typed t_at t_start t_token t_value h_t_verbs h_t_nums t_items)), (h_t_book, .inl (cI, 460, .inl t_book)), (h_t_low, .inl (cI, 8, .inl y118)), (h_t_high, .inl (cI, 8, .inl y117))] H → va_D A [(h_t, .inr (8, fX10 h_t_book h_t_images h_t_kept h_t_aside h_t_far h_t_then h_t_row h_t_mays h_t_firstRow h_t_low h_t_high x119 t_thanThis x120 x121 x122 h_t_lowOne h_t_highOne h_t_ways t_met h_t_left t_hours t_greatest h_t_text t_typed t_at t_start t_token t_value h_t_verbs h_t_nums t_items)), (h_t_book, .inl (cI, 460, .inl t_book)), (h_t_low, .inl (cI, 8, .inl y118)), (h_t_high, .inl (cI, 8, .inl y117))] → va_S A s.heap H locs → ∀ ls : Array Slot, lv_has ls 12 [(3, .int x123)] → W p l e rmX10_core s m args below meth c H locs 0 0 Q (F0 m 193 ls [])) → ∀ (H : Heap) (locs : List Loc), va_P (dC, dI) vwCl [(h_t, .inr (8, fX10 h_t_book h_t_images h_t_kept h_t_aside h_t_far h_t_then h_t_row h_t_mays h_t_firstRow h_t_low h_t_high x126 t_thanThis x127 x128 x129 h_t_lowOne h_t_highOne h_t_ways t_met h_t_left t_hours t_greatest h_t_text t_typed t_at t_start t_token t_value h_t_verbs h_t_nums t_items)), (h_t_book, .inl (cI, 460, .inl t_book)), (h_t_low, .inl (cI, 8, .inl y125)), (h_t_high, .inl (cI, 8, .inl y124))] H → va_D A [(h_t, .inr (8, fX10 h_t_book h_t_images h_t_kept h_t_aside h_t_far h_t_then h_t_row h_t_mays h_t_firstRow h_t_low h_t_high x126 t_thanThis x127 x128 x129 h_t_lowOne h_t_highOne h_t_ways t_met h_t_left t_hours t_greatest h_t_text t_typed t_at t_start t_token t_value h_t_verbs h_t_nums t_items)), (h_t_book, .inl (cI, 460, .inl t_book)), (h_t_low, .inl (cI, 8, .inl y125)), (h_t_high, .inl (cI, 8, .inl y124))] → va_S A s.heap H locs → ∀ ls : Array Slot, lv_has ls 12 [(0, .ref h_t), (2, .int x13), (3, .int x130), (4, .int x131), (5, .int x132)] → W p l e rmX10_core s m args below meth c H locs 0 0 Q (F0 m 41 ls []) := by
        intro fu134
        induction fu134 with
        | zero =>
          intro y124 y125 x126 x127 x128 x129 x130 x131 x132 y117 y118 x119 x120 x121 x122 x123 hf
          unfold f_X10_core_L9 at hf
          exact none_ne hf
        | succ fu134 ih133 =>
          intro y124 y125 x126 x127 x128 x129 x130 x131 x132 y117 y118 x119 x120 x121 x122 x123 hf hX135 H locs hP hD hS ls hl
          unfold f_X10_core_L9 at hf
          refine lv_iload hx hb dX10_core_41 (lv_at hl 4 rfl) ?_
          refine lv_aload_n hx hb dX10_core_43 rfl (lv_at hl 0 rfl) ?_
          refine va_get (D := (dC, dI)) (ci := 8) (v := .ref h_t_book) (C := RX10) (T := TX10) (N := 32) hx hb hts (in1 tw_X10) hown hK hP 0 rfl rfl 0 (by decide) (hts _ (List.mem_cons_of_mem _ kw_116)) (fun _ h9 => h9) rfl dX10_core_44 ?_
          refine lv_iconst (v := (3 : Int32)) hx hb dX10_core_47 (by decide) ?_
          obtain ⟨g136, hf⟩ := chk_some hf
          refine va_iald hx hb hK hP 1 0 rfl rfl (gin_in g136) dX10_core_48 ?_
          refine lv_icmp_ge (tgt := 193) hx hb dX10_core_49 (by decide) (fun c137 => ?_) (fun c137 => ?_)
          · replace hf := ifp c137 hf
            obtain ⟨rfl, rfl, rfl, rfl, rfl, rfl, rfl⟩ := inj7 hf
            exact hX135 _ _ hP hD hS _ (lv_sub hl [2] rfl)
          · replace hf := ifn c137 hf
            refine lv_aload_n hx hb dX10_core_52 rfl (lv_at hl 0 rfl) ?_
            refine lv_iload_n hx hb dX10_core_53 rfl (lv_at hl 1 rfl) ?_
            obtain ⟨r138, x139, x140, x141, y142, y143, hg144, hf⟩ := bd6_some hf
            refine CM_callV (C := RX10) (As := [.int x13]) (rest := []) (wc := [(h_t, .inr (8, fX10 h_t_book h_t_images h_t_kept h_t_aside h_t_far h_t_then h_t_row h_t_mays h_t_firstRow h_t_low h_t_high x126 t_thanThis x127 x128 x129 h_t_lowOne h_t_highOne h_t_ways t_met h_t_left t_hours t_greatest h_t_text t_typed t_at t_start t_token t_value h_t_verbs h_t_nums t_items)), (h_t_low, .inl (cI, 8, .inl y125)), (h_t_high, .inl (cI, 8, .inl y124)), (h_t_book, .inl (cI, 460, .inl t_book))]) (w1 := [(h_t, .inr (8, fX10 h_t_book h_t_images h_t_kept h_t_aside h_t_far h_t_then h_t_row h_t_mays h_t_firstRow h_t_low h_t_high x139 t_thanThis x140 x128 x141 h_t_lowOne h_t_highOne h_t_ways t_met h_t_left t_hours t_greatest h_t_text t_typed t_at t_start t_token t_value h_t_verbs h_t_nums t_items)), (h_t_low, .inl (cI, 8, .inl y142)), (h_t_high, .inl (cI, 8, .inl y143)), (h_t_book, .inl (cI, 460, .inl t_book))]) (wr := []) (wo := [(h_t, .inr (8, fX10 h_t_book h_t_images h_t_kept h_t_aside h_t_far h_t_then h_t_row h_t_mays h_t_firstRow h_t_low h_t_high x139 t_thanThis x140 x128 x141 h_t_lowOne h_t_highOne h_t_ways t_met h_t_left t_hours t_greatest h_t_text t_typed t_at t_start t_token t_value h_t_verbs h_t_nums t_items)), (h_t_book, .inl (cI, 460, .inl t_book)), (h_t_low, .inl (cI, 8, .inl y142)), (h_t_high, .inl (cI, 8, .inl y143))]) (v := (some (.int r138))) ⟨hx, hb, hml, hown, hts⟩ (c_X10_plain l dC dI cI cZ te h_t h_t_book h_t_images h_t_kept h_t_aside h_t_far h_t_then h_t_row h_t_mays h_t_firstRow h_t_low h_t_high h_t_lowOne h_t_highOne h_t_ways h_t_left h_t_text h_t_verbs h_t_nums x126 t_thanThis x127 x128 x129 t_met t_hours t_greatest t_typed t_at t_start t_token t_value t_items y125 y124 t_book x13 r138 x139 x140 x141 y142 y143 hg144) (cwV 1 hts (gV kw_259 kw_260 kw_261 kw_159 kw_262) rfl rfl rfl (by decide +kernel) ⟨Nat.le_of_ble_eq_true rfl, Nat.le_of_ble_eq_true rfl⟩) (kS_env te) hK hP hD hS hA hE [0, 2, 3, 1] [] [0, 3, 1, 2] rfl rfl (by decide) (by decide) (by decide) (by decide) rfl 0 8 rfl rfl rfl rfl hl.1 rfl (Nat.le_of_ble_eq_true rfl) dX10_core_54 ⟨Nat.zero_le _, Nat.zero_le _⟩ (fun H locs hP hD hS => ?_)
            show W p l e rmX10_core s m args below meth c H locs 0 0 Q (F0 m 57 ls [.int r138])
            refine lv_pop hx hb dX10_core_57 rfl ?_
            refine lv_aload_n hx hb dX10_core_58 rfl (lv_at hl 0 rfl) ?_
            refine va_get (D := (dC, dI)) (ci := 8) (v := .ref h_t_low) (C := RX10) (T := TX10) (N := 32) hx hb hts (in1 tw_X10) hown hK hP 0 rfl rfl 9 (by decide) (hts _ (List.mem_cons_of_mem _ kw_126)) (fun _ h9 => h9) rfl dX10_core_59 ?_
            refine lv_iload hx hb dX10_core_62 (lv_at hl 4 rfl) ?_
            obtain ⟨g145, hf⟩ := chk_some hf
            refine va_iald hx hb hK hP 2 0 rfl rfl (gin_in g145) dX10_core_64 ?_
            obtain ⟨x146, e147, hf⟩ := nm_some hf
            refine lv_tope e147 ?_
            refine lv_istore (lv' := [(6, .int x146), (0, .ref h_t), (2, .int x13), (3, .int x130), (4, .int x131), (5, .int x132)]) hx hb dX10_core_65 hl (by decide) rfl (fun ls hl => ?_)
            refine lv_aload_n hx hb dX10_core_67 rfl (lv_at hl 1 rfl) ?_
            refine va_get (D := (dC, dI)) (ci := 8) (v := .ref h_t_high) (C := RX10) (T := TX10) (N := 32) hx hb hts (in1 tw_X10) hown hK hP 0 rfl rfl 10 (by decide) (hts _ (List.mem_cons_of_mem _ kw_127)) (fun _ h9 => h9) rfl dX10_core_68 ?_
            refine lv_iload hx hb dX10_core_71 (lv_at hl 5 rfl) ?_
            obtain ⟨g148, hf⟩ := chk_some hf
            refine va_iald hx hb hK hP 3 0 rfl rfl (gin_in g148) dX10_core_73 ?_
            obtain ⟨x149, e150, hf⟩ := nm_some hf
            refine lv_tope e150 ?_
            refine lv_istore (lv' := [(7, .int x149), (6, .int x146), (0, .ref h_t), (2, .int x13), (3, .int x130), (4, .int x131), (5, .int x132)]) hx hb dX10_core_74 hl (by decide) rfl (fun ls hl => ?_)
            refine lv_iconst (v := (0 : Int32)) hx hb dX10_core_76 (by decide) ?_
            refine lv_istore (lv' := [(8, .int (0 : Int32)), (7, .int x149), (6, .int x146), (0, .ref h_t), (2, .int x13), (3, .int x130), (4, .int x131), (5, .int x132)]) hx hb dX10_core_77 hl (by decide) rfl (fun ls hl => ?_)
            refine lv_aload_n hx hb dX10_core_79 rfl (lv_at hl 3 rfl) ?_
            refine lv_iload hx hb dX10_core_80 (lv_at hl 7 rfl) ?_
            refine va_put (D := (dC, dI)) (ci := 8) (v := .int x132) (ty := tyX10 13) (C := RX10) (T := TX10) (N := 32) hx hb hts (in1 tw_X10) tyX10 tyX10_ok nmX10 hown hK hP hD hS 0 rfl rfl 13 (by decide) (hts _ (List.mem_cons_of_mem _ kw_247)) (fun _ h9 => h9) rfl (tyX10_ok 13 (by decide)) rfl rfl (Nat.le_of_ble_eq_true rfl) dX10_core_82 (fun H locs hP hD hS => ?_)
            have hP : va_P (dC, dI) vwCl [(h_t, .inr (8, fX10 h_t_book h_t_images h_t_kept h_t_aside h_t_far h_t_then h_t_row h_t_mays h_t_firstRow h_t_low h_t_high x139 t_thanThis x132 x128 x141 h_t_lowOne h_t_highOne h_t_ways t_met h_t_left t_hours t_greatest h_t_text t_typed t_at t_start t_token t_value h_t_verbs h_t_nums t_items)), (h_t_book, .inl (cI, 460, .inl t_book)), (h_t_low, .inl (cI, 8, .inl y142)), (h_t_high, .inl (cI, 8, .inl y143))] H := hP
            have hD : va_D A [(h_t, .inr (8, fX10 h_t_book h_t_images h_t_kept h_t_aside h_t_far h_t_then h_t_row h_t_mays h_t_firstRow h_t_low h_t_high x139 t_thanThis x132 x128 x141 h_t_lowOne h_t_highOne h_t_ways t_met h_t_left t_hours t_greatest h_t_text t_typed t_at t_start t_token t_value h_t_verbs h_t_nums t_items)), (h_t_book, .inl (cI, 460, .inl t_book)), (h_t_low, .inl (cI, 8, .inl y142)), (h_t_high, .inl (cI, 8, .inl y143))] := hD
            refine lv_iload hx hb dX10_core_85 (lv_at hl 2 rfl) ?_
            refine lv_istore (lv' := [(9, .int x146), (8, .int (0 : Int32)), (7, .int x149), (6, .int x146), (0, .ref h_t), (2, .int x13), (3, .int x130), (4, .int x131), (5, .int x132)]) hx hb dX10_core_87 hl (by decide) rfl (fun ls hl => ?_)
            have L227 : ∀ (fu197 : Nat) (y190 : Nat → Int32) (y191 : Nat → Int32) (x192 : Int32) (x193 : Int32) (x194 : Int32) (x195 : Int32) (y185 : Nat → Int32) (y186 : Nat → Int32) (x187 : Int32) (x188 : Int32) (x189 : Int32), f_X10_core_L12 x149 x139 t_thanThis x132 t_book x13 fu197 y190 y191 x192 x193 x194 x195 = some (y185, y186, x187, x188, x189) → (∀ (H : Heap) (locs : List Loc), va_P (dC, dI) vwCl [(h_t, .inr (8, fX10 h_t_book h_t_images h_t_kept h_t_aside h_t_far h_t_then h_t_row h_t_mays h_t_firstRow h_t_low h_t_high x139 t_thanThis x132 x187 x188 h_t_lowOne h_t_highOne h_t_ways t_met h_t_left t_hours t_greatest h_t_text t_typed t_at t_start t_token t_value h_t_verbs h_t_nums t_items)), (h_t_book, .inl (cI, 460, .inl t_book)), (h_t_low, .inl (cI, 8, .inl y186)), (h_t_high, .inl (cI, 8, .inl y185))] H → va_D A [(h_t, .inr (8, fX10 h_t_book h_t_images h_t_kept h_t_aside h_t_far h_t_then h_t_row h_t_mays h_t_firstRow h_t_low h_t_high x139 t_thanThis x132 x187 x188 h_t_lowOne h_t_highOne h_t_ways t_met h_t_left t_hours t_greatest h_t_text t_typed t_at t_start t_token t_value h_t_verbs h_t_nums t_items)), (h_t_book, .inl (cI, 460, .inl t_book)), (h_t_low, .inl (cI, 8, .inl y186)), (h_t_high, .inl (cI, 8, .inl y185))] → va_S A s.heap H locs → ∀ ls : Array Slot, lv_has ls 12 [(0, .ref h_t), (2, .int x13), (3, .int x130), (4, .int x131), (5, .int x132), (8, .int x189)] → W p l e rmX10_core s m args below meth c H locs 0 0 Q (F0 m 173 ls [])) → ∀ (H : Heap) (locs : List Loc), va_P (dC, dI) vwCl [(h_t, .inr (8, fX10 h_t_book h_t_images h_t_kept h_t_aside h_t_far h_t_then h_t_row h_t_mays h_t_firstRow h_t_low h_t_high x139 t_thanThis x132 x192 x193 h_t_lowOne h_t_highOne h_t_ways t_met h_t_left t_hours t_greatest h_t_text t_typed t_at t_start t_token t_value h_t_verbs h_t_nums t_items)), (h_t_book, .inl (cI, 460, .inl t_book)), (h_t_low, .inl (cI, 8, .inl y191)), (h_t_high, .inl (cI, 8, .inl y190))] H → va_D A [(h_t, .inr (8, fX10 h_t_book h_t_images h_t_kept h_t_aside h_t_far h_t_then h_t_row h_t_mays h_t_firstRow h_t_low h_t_high x139 t_thanThis x132 x192 x193 h_t_lowOne h_t_highOne h_t_ways t_met h_t_left t_hours t_greatest h_t_text t_typed t_at t_start t_token t_value h_t_verbs h_t_nums t_items)), (h_t_book, .inl (cI, 460, .inl t_book)), (h_t_low, .inl (cI, 8, .inl y191)), (h_t_high, .inl (cI, 8, .inl y190))] → va_S A s.heap H locs → ∀ ls : Array Slot, lv_has ls 12 [(0, .ref h_t), (2, .int x13), (3, .int x130), (4, .int x131), (5, .int x132), (7, .int x149), (8, .int x194), (9, .int x195)] → W p l e rmX10_core s m args below meth c H locs 0 0 Q (F0 m 89 ls []) := by
              intro fu197
              induction fu197 with
              | zero =>
                intro y190 y191 x192 x193 x194 x195 y185 y186 x187 x188 x189 hf
                unfold f_X10_core_L12 at hf
                exact none_ne hf
              | succ fu197 ih196 =>
                intro y190 y191 x192 x193 x194 x195 y185 y186 x187 x188 x189 hf hX198 H locs hP hD hS ls hl
                unfold f_X10_core_L12 at hf
                refine lv_iload hx hb dX10_core_89 (lv_at hl 7 rfl) ?_
                refine lv_iload hx hb dX10_core_91 (lv_at hl 5 rfl) ?_
                refine lv_icmp_gt (tgt := 173) hx hb dX10_core_93 (by decide) (fun c199 => ?_) (fun c199 => ?_)
                · replace hf := ifp c199 hf
                  obtain ⟨rfl, rfl, rfl, rfl, rfl⟩ := inj5 hf
                  exact hX198 _ _ hP hD hS _ (lv_sub hl [0, 1, 2, 3, 4, 6] rfl)
                · replace hf := ifn c199 hf
                  refine lv_aload_n hx hb dX10_core_96 rfl (lv_at hl 0 rfl) ?_
                  refine lv_iload hx hb dX10_core_97 (lv_at hl 7 rfl) ?_
                  refine va_put (D := (dC, dI)) (ci := 8) (v := .int x195) (ty := tyX10 14) (C := RX10) (T := TX10) (N := 32) hx hb hts (in1 tw_X10) tyX10 tyX10_ok nmX10 hown hK hP hD hS 0 rfl rfl 14 (by decide) (hts _ (List.mem_cons_of_mem _ kw_248)) (fun _ h9 => h9) rfl (tyX10_ok 14 (by decide)) rfl rfl (Nat.le_of_ble_eq_true rfl) dX10_core_99 (fun H locs hP hD hS => ?_)
                  have hP : va_P (dC, dI) vwCl [(h_t, .inr (8, fX10 h_t_book h_t_images h_t_kept h_t_aside h_t_far h_t_then h_t_row h_t_mays h_t_firstRow h_t_low h_t_high x139 t_thanThis x132 x195 x193 h_t_lowOne h_t_highOne h_t_ways t_met h_t_left t_hours t_greatest h_t_text t_typed t_at t_start t_token t_value h_t_verbs h_t_nums t_items)), (h_t_book, .inl (cI, 460, .inl t_book)), (h_t_low, .inl (cI, 8, .inl y191)), (h_t_high, .inl (cI, 8, .inl y190))] H := hP
                  have hD : va_D A [(h_t, .inr (8, fX10 h_t_book h_t_images h_t_kept h_t_aside h_t_far h_t_then h_t_row h_t_mays h_t_firstRow h_t_low h_t_high x139 t_thanThis x132 x195 x193 h_t_lowOne h_t_highOne h_t_ways t_met h_t_left t_hours t_greatest h_t_text t_typed t_at t_start t_token t_value h_t_verbs h_t_nums t_items)), (h_t_book, .inl (cI, 460, .inl t_book)), (h_t_low, .inl (cI, 8, .inl y191)), (h_t_high, .inl (cI, 8, .inl y190))] := hD
                  refine lv_aload_n hx hb dX10_core_102 rfl (lv_at hl 0 rfl) ?_
                  refine lv_iload_n hx hb dX10_core_103 rfl (lv_at hl 1 rfl) ?_
                  obtain ⟨r200, x201, y202, y203, hg204, hf⟩ := bd4_some hf
                  refine CM_callV (C := RX10) (As := [.int x13]) (rest := []) (wc := [(h_t, .inr (8, fX10 h_t_book h_t_images h_t_kept h_t_aside h_t_far h_t_then h_t_row h_t_mays h_t_firstRow h_t_low h_t_high x139 t_thanThis x132 x195 x193 h_t_lowOne h_t_highOne h_t_ways t_met h_t_left t_hours t_greatest h_t_text t_typed t_at t_start t_token t_value h_t_verbs h_t_nums t_items)), (h_t_low, .inl (cI, 8, .inl y191)), (h_t_high, .inl (cI, 8, .inl y190)), (h_t_book, .inl (cI, 460, .inl t_book))]) (w1 := [(h_t, .inr (8, fX10 h_t_book h_t_images h_t_kept h_t_aside h_t_far h_t_then h_t_row h_t_mays h_t_firstRow h_t_low h_t_high x139 t_thanThis x132 x195 x201 h_t_lowOne h_t_highOne h_t_ways t_met h_t_left t_hours t_greatest h_t_text t_typed t_at t_start t_token t_value h_t_verbs h_t_nums t_items)), (h_t_low, .inl (cI, 8, .inl y202)), (h_t_high, .inl (cI, 8, .inl y203)), (h_t_book, .inl (cI, 460, .inl t_book))]) (wr := []) (wo := [(h_t, .inr (8, fX10 h_t_book h_t_images h_t_kept h_t_aside h_t_far h_t_then h_t_row h_t_mays h_t_firstRow h_t_low h_t_high x139 t_thanThis x132 x195 x201 h_t_lowOne h_t_highOne h_t_ways t_met h_t_left t_hours t_greatest h_t_text t_typed t_at t_start t_token t_value h_t_verbs h_t_nums t_items)), (h_t_book, .inl (cI, 460, .inl t_book)), (h_t_low, .inl (cI, 8, .inl y202)), (h_t_high, .inl (cI, 8, .inl y203))]) (v := (some (.int r200))) ⟨hx, hb, hml, hown, hts⟩ (c_X10_bounds l dC dI cI cZ te h_t h_t_book h_t_images h_t_kept h_t_aside h_t_far h_t_then h_t_row h_t_mays h_t_firstRow h_t_low h_t_high h_t_lowOne h_t_highOne h_t_ways h_t_left h_t_text h_t_verbs h_t_nums x139 t_thanThis x132 x195 x193 t_met t_hours t_greatest t_typed t_at t_start t_token t_value t_items y191 y190 t_book x13 r200 x201 y202 y203 hg204) (cwV 1 hts (gV kw_255 kw_256 kw_257 kw_159 kw_258) rfl rfl rfl (by decide +kernel) ⟨Nat.le_of_ble_eq_true rfl, Nat.le_of_ble_eq_true rfl⟩) (kS_env te) hK hP hD hS hA hE [0, 2, 3, 1] [] [0, 3, 1, 2] rfl rfl (by decide) (by decide) (by decide) (by decide) rfl 0 8 rfl rfl rfl rfl hl.1 rfl (Nat.le_of_ble_eq_true rfl) dX10_core_104 ⟨Nat.zero_le _, Nat.zero_le _⟩ (fun H locs hP hD hS => ?_)
                  show W p l e rmX10_core s m args below meth c H locs 0 0 Q (F0 m 107 ls [.int r200])
                  refine lv_pop hx hb dX10_core_107 rfl ?_
                  refine lv_iconst (v := (0 : Int32)) hx hb dX10_core_108 (by decide) ?_
                  refine lv_istore (lv' := [(10, .int (0 : Int32)), (0, .ref h_t), (2, .int x13), (3, .int x130), (4, .int x131), (5, .int x132), (7, .int x149), (8, .int x194), (9, .int x195)]) hx hb dX10_core_109 hl (by decide) rfl (fun ls hl => ?_)
                  refine lv_iconst (v := (0 : Int32)) hx hb dX10_core_111 (by decide) ?_
                  refine lv_istore (lv' := [(11, .int (0 : Int32)), (10, .int (0 : Int32)), (0, .ref h_t), (2, .int x13), (3, .int x130), (4, .int x131), (5, .int x132), (7, .int x149), (8, .int x194), (9, .int x195)]) hx hb dX10_core_112 hl (by decide) rfl (fun ls hl => ?_)
                  have L225 : ∀ (fu217 : Nat) (x214 : Int32) (x215 : Int32) (x213 : Int32), f_X10_core_L13 t_book y203 y202 fu217 x214 x215 = some x213 → (∀ (H : Heap) (locs : List Loc), va_P (dC, dI) vwCl [(h_t, .inr (8, fX10 h_t_book h_t_images h_t_kept h_t_aside h_t_far h_t_then h_t_row h_t_mays h_t_firstRow h_t_low h_t_high x139 t_thanThis x132 x195 x201 h_t_lowOne h_t_highOne h_t_ways t_met h_t_left t_hours t_greatest h_t_text t_typed t_at t_start t_token t_value h_t_verbs h_t_nums t_items)), (h_t_book, .inl (cI, 460, .inl t_book)), (h_t_low, .inl (cI, 8, .inl y202)), (h_t_high, .inl (cI, 8, .inl y203))] H → va_D A [(h_t, .inr (8, fX10 h_t_book h_t_images h_t_kept h_t_aside h_t_far h_t_then h_t_row h_t_mays h_t_firstRow h_t_low h_t_high x139 t_thanThis x132 x195 x201 h_t_lowOne h_t_highOne h_t_ways t_met h_t_left t_hours t_greatest h_t_text t_typed t_at t_start t_token t_value h_t_verbs h_t_nums t_items)), (h_t_book, .inl (cI, 460, .inl t_book)), (h_t_low, .inl (cI, 8, .inl y202)), (h_t_high, .inl (cI, 8, .inl y203))] → va_S A s.heap H locs → ∀ ls : Array Slot, lv_has ls 12 [(0, .ref h_t), (2, .int x13), (3, .int x130), (4, .int x131), (5, .int x132), (7, .int x149), (8, .int x194), (9, .int x195), (10, .int x213)] → W p l e rmX10_core s m args below meth c H locs 0 0 Q (F0 m 151 ls [])) → ∀ (H : Heap) (locs : List Loc), va_P (dC, dI) vwCl [(h_t, .inr (8, fX10 h_t_book h_t_images h_t_kept h_t_aside h_t_far h_t_then h_t_row h_t_mays h_t_firstRow h_t_low h_t_high x139 t_thanThis x132 x195 x201 h_t_lowOne h_t_highOne h_t_ways t_met h_t_left t_hours t_greatest h_t_text t_typed t_at t_start t_token t_value h_t_verbs h_t_nums t_items)), (h_t_book, .inl (cI, 460, .inl t_book)), (h_t_low, .inl (cI, 8, .inl y202)), (h_t_high, .inl (cI, 8, .inl y203))] H → va_D A [(h_t, .inr (8, fX10 h_t_book h_t_images h_t_kept h_t_aside h_t_far h_t_then h_t_row h_t_mays h_t_firstRow h_t_low h_t_high x139 t_thanThis x132 x195 x201 h_t_lowOne h_t_highOne h_t_ways t_met h_t_left t_hours t_greatest h_t_text t_typed t_at t_start t_token t_value h_t_verbs h_t_nums t_items)), (h_t_book, .inl (cI, 460, .inl t_book)), (h_t_low, .inl (cI, 8, .inl y202)), (h_t_high, .inl (cI, 8, .inl y203))] → va_S A s.heap H locs → ∀ ls : Array Slot, lv_has ls 12 [(0, .ref h_t), (2, .int x13), (3, .int x130), (4, .int x131), (5, .int x132), (7, .int x149), (8, .int x194), (9, .int x195), (10, .int x214), (11, .int x215)] → W p l e rmX10_core s m args below meth c H locs 0 0 Q (F0 m 114 ls []) := by
                    intro fu217
                    induction fu217 with
                    | zero =>
                      intro x214 x215 x213 hf
                      unfold f_X10_core_L13 at hf
                      exact none_ne hf
                    | succ fu217 ih216 =>
                      intro x214 x215 x213 hf hX218 H locs hP hD hS ls hl
                      unfold f_X10_core_L13 at hf
                      refine lv_iload hx hb dX10_core_114 (lv_at hl 9 rfl) ?_
                      refine lv_aload_n hx hb dX10_core_116 rfl (lv_at hl 0 rfl) ?_
                      refine va_get (D := (dC, dI)) (ci := 8) (v := .ref h_t_book) (C := RX10) (T := TX10) (N := 32) hx hb hts (in1 tw_X10) hown hK hP 0 rfl rfl 0 (by decide) (hts _ (List.mem_cons_of_mem _ kw_116)) (fun _ h9 => h9) rfl dX10_core_117 ?_
                      refine lv_iconst (v := (3 : Int32)) hx hb dX10_core_120 (by decide) ?_
                      obtain ⟨g219, hf⟩ := chk_some hf
                      refine va_iald hx hb hK hP 1 0 rfl rfl (gin_in g219) dX10_core_121 ?_
                      refine lv_icmp_ge (tgt := 151) hx hb dX10_core_122 (by decide) (fun c220 => ?_) (fun c220 => ?_)
                      · replace hf := ifp c220 hf
                        obtain rfl := inj1 hf
                        exact hX218 _ _ hP hD hS _ (lv_sub hl [0, 1, 2, 3, 4, 5, 6, 7, 8] rfl)
                      · replace hf := ifn c220 hf
                        refine lv_iload hx hb dX10_core_125 (lv_at hl 8 rfl) ?_
                        refine lv_aload_n hx hb dX10_core_127 rfl (lv_at hl 0 rfl) ?_
                        refine va_get (D := (dC, dI)) (ci := 8) (v := .ref h_t_high) (C := RX10) (T := TX10) (N := 32) hx hb hts (in1 tw_X10) hown hK hP 0 rfl rfl 10 (by decide) (hts _ (List.mem_cons_of_mem _ kw_127)) (fun _ h9 => h9) rfl dX10_core_128 ?_
                        refine lv_iload hx hb dX10_core_131 (lv_at hl 9 rfl) ?_
                        obtain ⟨g221, hf⟩ := chk_some hf
                        refine va_iald hx hb hK hP 3 0 rfl rfl (gin_in g221) dX10_core_133 ?_
                        refine lv_aload_n hx hb dX10_core_134 rfl (lv_at hl 0 rfl) ?_
                        refine va_get (D := (dC, dI)) (ci := 8) (v := .ref h_t_low) (C := RX10) (T := TX10) (N := 32) hx hb hts (in1 tw_X10) hown hK hP 0 rfl rfl 9 (by decide) (hts _ (List.mem_cons_of_mem _ kw_126)) (fun _ h9 => h9) rfl dX10_core_135 ?_
                        refine lv_iload hx hb dX10_core_138 (lv_at hl 9 rfl) ?_
                        obtain ⟨g222, hf⟩ := chk_some hf
                        refine va_iald hx hb hK hP 2 0 rfl rfl (gin_in g222) dX10_core_140 ?_
                        refine lv_isub hx hb dX10_core_141 ?_
                        refine lv_iadd hx hb dX10_core_142 ?_
                        obtain ⟨x223, e224, hf⟩ := nm_some hf
                        refine lv_tope e224 ?_
                        refine lv_istore (lv' := [(10, .int x223), (0, .ref h_t), (2, .int x13), (3, .int x130), (4, .int x131), (5, .int x132), (7, .int x149), (8, .int x194), (9, .int x195), (11, .int x215)]) hx hb dX10_core_143 hl (by decide) rfl (fun ls hl => ?_)
                        refine lv_iinc (v := (x215 + (1 : Int32))) (lv' := [(11, .int (x215 + (1 : Int32))), (10, .int x223), (0, .ref h_t), (2, .int x13), (3, .int x130), (4, .int x131), (5, .int x132), (7, .int x149), (8, .int x194), (9, .int x195)]) hx hb dX10_core_145 hl (k := 9) rfl rfl (by decide) rfl (fun ls hl => ?_)
                        refine lv_goto (tgt := 114) hx hb dX10_core_148 (by decide) ?_
                        exact ih216 _ _ _ hf hX218 _ _ hP hD hS _ (lv_sub hl [2, 3, 4, 5, 6, 7, 8, 9, 1, 0] rfl)
                  obtain ⟨x213, hg, hf⟩ := bd1_some hf
                  refine L225 FU _ _ _ hg ?_ _ _ hP hD hS _ (lv_sub hl [2, 3, 4, 5, 6, 7, 8, 9, 1, 0] rfl)
                  · intro H locs hP hD hS ls hl
                    refine lv_iload hx hb dX10_core_151 (lv_at hl 8 rfl) ?_
                    refine lv_iload hx hb dX10_core_153 (lv_at hl 6 rfl) ?_
                    refine lv_icmp_le (tgt := 163) hx hb dX10_core_155 (by decide) (fun c226 => ?_) (fun c226 => ?_)
                    · replace hf := ifp c226 hf
                      refine lv_iload hx hb dX10_core_163 (lv_at hl 6 rfl) ?_
                      refine lv_istore (lv' := [(8, .int x194), (0, .ref h_t), (2, .int x13), (3, .int x130), (4, .int x131), (5, .int x132), (7, .int x149), (9, .int x195), (10, .int x213)]) hx hb dX10_core_165 hl (by decide) rfl (fun ls hl => ?_)
                      refine lv_iinc (v := (x195 + (1 : Int32))) (lv' := [(9, .int (x195 + (1 : Int32))), (8, .int x194), (0, .ref h_t), (2, .int x13), (3, .int x130), (4, .int x131), (5, .int x132), (7, .int x149), (10, .int x213)]) hx hb dX10_core_167 hl (k := 7) rfl rfl (by decide) rfl (fun ls hl => ?_)
                      refine lv_goto (tgt := 89) hx hb dX10_core_170 (by decide) ?_
                      exact ih196 _ _ _ _ _ _ _ _ _ _ _ hf hX198 _ _ hP hD hS _ (lv_sub hl [2, 3, 4, 5, 6, 7, 1, 0] rfl)
                    · replace hf := ifn c226 hf
                      refine lv_iload hx hb dX10_core_158 (lv_at hl 8 rfl) ?_
                      refine lv_goto (tgt := 165) hx hb dX10_core_160 (by decide) ?_
                      refine lv_istore (lv' := [(8, .int x213), (0, .ref h_t), (2, .int x13), (3, .int x130), (4, .int x131), (5, .int x132), (7, .int x149), (9, .int x195), (10, .int x213)]) hx hb dX10_core_165 hl (by decide) rfl (fun ls hl => ?_)
                      refine lv_iinc (v := (x195 + (1 : Int32))) (lv' := [(9, .int (x195 + (1 : Int32))), (8, .int x213), (0, .ref h_t), (2, .int x13), (3, .int x130), (4, .int x131), (5, .int x132), (7, .int x149), (10, .int x213)]) hx hb dX10_core_167 hl (k := 7) rfl rfl (by decide) rfl (fun ls hl => ?_)
                      refine lv_goto (tgt := 89) hx hb dX10_core_170 (by decide) ?_
                      exact ih196 _ _ _ _ _ _ _ _ _ _ _ hf hX198 _ _ hP hD hS _ (lv_sub hl [2, 3, 4, 5, 6, 7, 1, 0] rfl)
            obtain ⟨y185, y186, x187, x188, x189, hg, hf⟩ := bd5_some hf
            refine L227 FU _ _ _ _ _ _ _ _ _ _ _ hg ?_ _ _ hP hD hS _ (lv_sub hl [4, 5, 6, 7, 8, 2, 1, 0] rfl)
            · intro H locs hP hD hS ls hl
              refine lv_iload hx hb dX10_core_173 (lv_at hl 5 rfl) ?_
              refine lv_iload hx hb dX10_core_175 (lv_at hl 3 rfl) ?_
              refine lv_icmp_ge (tgt := 187) hx hb dX10_core_177 (by decide) (fun c228 => ?_) (fun c228 => ?_)
              · replace hf := ifp c228 hf
                refine lv_iinc (v := (x132 + (1 : Int32))) (lv' := [(5, .int (x132 + (1 : Int32))), (0, .ref h_t), (2, .int x13), (3, .int x130), (4, .int x131), (8, .int x189)]) hx hb dX10_core_187 hl (k := 4) rfl rfl (by decide) rfl (fun ls hl => ?_)
                refine lv_goto (tgt := 41) hx hb dX10_core_190 (by decide) ?_
                exact ih133 _ _ _ _ _ _ _ _ _ _ _ _ _ _ _ _ hf hX135 _ _ hP hD hS _ (lv_sub hl [1, 2, 3, 4, 0] rfl)
              · replace hf := ifn c228 hf
                refine lv_iload hx hb dX10_core_180 (lv_at hl 4 rfl) ?_
                refine lv_istore_n (lv' := [(3, .int x132), (0, .ref h_t), (2, .int x13), (4, .int x131), (5, .int x132), (8, .int x189)]) hx hb dX10_core_182 rfl hl (by decide) rfl (fun ls hl => ?_)
                refine lv_iload hx hb dX10_core_183 (lv_at hl 5 rfl) ?_
                refine lv_istore (lv' := [(4, .int x189), (3, .int x132), (0, .ref h_t), (2, .int x13), (5, .int x132), (8, .int x189)]) hx hb dX10_core_185 hl (by decide) rfl (fun ls hl => ?_)
                refine lv_iinc (v := (x132 + (1 : Int32))) (lv' := [(5, .int (x132 + (1 : Int32))), (4, .int x189), (3, .int x132), (0, .ref h_t), (2, .int x13), (8, .int x189)]) hx hb dX10_core_187 hl (k := 4) rfl rfl (by decide) rfl (fun ls hl => ?_)
                refine lv_goto (tgt := 41) hx hb dX10_core_190 (by decide) ?_
                exact ih133 _ _ _ _ _ _ _ _ _ _ _ _ _ _ _ _ hf hX135 _ _ hP hD hS _ (lv_sub hl [3, 4, 2, 1, 0] rfl)
      obtain ⟨y117, y118, x119, x120, x121, x122, x123, hg, hf⟩ := bd7_some hf
      refine L229 FU _ _ _ _ _ _ _ _ _ _ _ _ _ _ _ _ hg ?_ _ _ hP hD hS _ (lv_sub hl [5, 3, 2, 1, 0] rfl)
      · intro H locs hP hD hS ls hl
        refine lv_iload_n hx hb dX10_core_193 rfl (lv_at hl 0 rfl) ?_
        obtain ⟨rfl, rfl, rfl, rfl, rfl, rfl, rfl⟩ := inj7 hf
        subst hQ
        exact CM_iret hx hb hr rfl hlocks hAe hP hD hS dX10_core_194
    · replace hf := ifn c10 hf
      refine lv_bipush (v := (-5 : Int32)) hx hb dX10_core_20 (by decide) ?_
      obtain ⟨rfl, rfl, rfl, rfl, rfl, rfl, rfl⟩ := inj7 hf
      subst hQ
      exact CM_iret hx hb hr rfl hlocks hAe hP hD hS dX10_core_22
  · replace hf := ifp c2 hf
    refine lv_iconst (v := (-1 : Int32)) hx hb dX10_core_9 (by decide) ?_
    obtain ⟨rfl, rfl, rfl, rfl, rfl, rfl, rfl⟩ := inj7 hf
    subst hQ
    exact CM_iret hx hb hr rfl hlocks hAe hP hD hS dX10_core_10
def rmX10_ofScholar : Room := { frames := 1, cells := 0, slots := 0, locals := 22 }
abbrev wqX10_ofScholar : List Cond := Cond.code yX10_ofScholar cX10_ofScholar 4 (some .int) :: tG
set_option maxHeartbeats 4000000 in
set_option maxRecDepth 100000 in
theorem c_X10_ofScholar (l : Launch) (dC : Nat → ClassId) (dI : Nat → Nat → Nat) (cI cZ : ClassId) (te : Nat → Nat) (h_t : Nat) (h_t_book : Nat) (h_t_images : Nat) (h_t_kept : Nat) (h_t_aside : Nat) (h_t_far : Nat) (h_t_then : Nat) (h_t_row : Nat) (h_t_mays : Nat) (h_t_firstRow : Nat) (h_t_low : Nat) (h_t_high : Nat) (h_t_lowOne : Nat) (h_t_highOne : Nat) (h_t_ways : Nat) (h_t_left : Nat) (h_t_text : Nat) (h_t_verbs : Nat) (h_t_nums : Nat) (t_noOlder : Int32) (t_thanThis : Int32) (t_known : Int32) (t_knownAge : Int32) (t_moved : Int32) (t_met : Int32) (t_hours : Int32) (t_greatest : Int32) (t_typed : Int32) (t_at : Int32) (t_start : Int32) (t_token : Int32) (t_value : Int32) (t_items : Int32) (t_book : Nat → Int32) (p1 : Int32) (o0 : Int32) (hf : f_X10_ofScholar t_book p1 = some o0) : CM l yX10_ofScholar wqX10_ofScholar rmX10_ofScholar (kS te) dC dI cI cZ [.ref h_t, .int p1] [(h_t, .inr (8, fX10 h_t_book h_t_images h_t_kept h_t_aside h_t_far h_t_then h_t_row h_t_mays h_t_firstRow h_t_low h_t_high t_noOlder t_thanThis t_known t_knownAge t_moved h_t_lowOne h_t_highOne h_t_ways t_met h_t_left t_hours t_greatest h_t_text t_typed t_at t_start t_token t_value h_t_verbs h_t_nums t_items)), (h_t_book, .inl (cI, 460, .inl t_book))] [(h_t, .inr (8, fX10 h_t_book h_t_images h_t_kept h_t_aside h_t_far h_t_then h_t_row h_t_mays h_t_firstRow h_t_low h_t_high t_noOlder t_thanThis t_known t_knownAge t_moved h_t_lowOne h_t_highOne h_t_ways t_met h_t_left t_hours t_greatest h_t_text t_typed t_at t_start t_token t_value h_t_verbs h_t_nums t_items)), (h_t_book, .inl (cI, 460, .inl t_book))] (some (.int o0)) := by
  refine CM_of (cc := cX10_ofScholar) (maxL := 4) (ret := (some .int)) (by decide +kernel) rfl (Nat.le_of_ble_eq_true rfl) ?_
  intro p e s m args below meth c A Q hx hb hr hml hown hts hlocks hA hK hP hD hS hE hQ hAe ls hl
  have hown : s.vm.findClass RX10 = some m.cls := hown
  have hl : lv_has ls 4 [(0, .ref h_t), (1, .int p1)] := hl
  unfold f_X10_ofScholar at hf
  refine lv_iconst (v := (0 : Int32)) hx hb dX10_ofScholar_0 (by decide) ?_
  refine lv_istore_n (lv' := [(2, .int (0 : Int32)), (0, .ref h_t), (1, .int p1)]) hx hb dX10_ofScholar_1 rfl hl (by decide) rfl (fun ls hl => ?_)
  refine lv_iconst (v := (0 : Int32)) hx hb dX10_ofScholar_2 (by decide) ?_
  refine lv_istore_n (lv' := [(3, .int (0 : Int32)), (2, .int (0 : Int32)), (0, .ref h_t), (1, .int p1)]) hx hb dX10_ofScholar_3 rfl hl (by decide) rfl (fun ls hl => ?_)
  have L27 : ∀ (fu16 : Nat) (x13 : Int32) (x14 : Int32) (x12 : Int32), f_X10_ofScholar_L1 t_book p1 fu16 x13 x14 = some x12 → (∀ (H : Heap) (locs : List Loc), va_P (dC, dI) vwCl [(h_t, .inr (8, fX10 h_t_book h_t_images h_t_kept h_t_aside h_t_far h_t_then h_t_row h_t_mays h_t_firstRow h_t_low h_t_high t_noOlder t_thanThis t_known t_knownAge t_moved h_t_lowOne h_t_highOne h_t_ways t_met h_t_left t_hours t_greatest h_t_text t_typed t_at t_start t_token t_value h_t_verbs h_t_nums t_items)), (h_t_book, .inl (cI, 460, .inl t_book))] H → va_D A [(h_t, .inr (8, fX10 h_t_book h_t_images h_t_kept h_t_aside h_t_far h_t_then h_t_row h_t_mays h_t_firstRow h_t_low h_t_high t_noOlder t_thanThis t_known t_knownAge t_moved h_t_lowOne h_t_highOne h_t_ways t_met h_t_left t_hours t_greatest h_t_text t_typed t_at t_start t_token t_value h_t_verbs h_t_nums t_items)), (h_t_book, .inl (cI, 460, .inl t_book))] → va_S A s.heap H locs → ∀ ls : Array Slot, lv_has ls 4 [(2, .int x12)] → W p l e rmX10_ofScholar s m args below meth c H locs 0 0 Q (F0 m 40 ls [])) → ∀ (H : Heap) (locs : List Loc), va_P (dC, dI) vwCl [(h_t, .inr (8, fX10 h_t_book h_t_images h_t_kept h_t_aside h_t_far h_t_then h_t_row h_t_mays h_t_firstRow h_t_low h_t_high t_noOlder t_thanThis t_known t_knownAge t_moved h_t_lowOne h_t_highOne h_t_ways t_met h_t_left t_hours t_greatest h_t_text t_typed t_at t_start t_token t_value h_t_verbs h_t_nums t_items)), (h_t_book, .inl (cI, 460, .inl t_book))] H → va_D A [(h_t, .inr (8, fX10 h_t_book h_t_images h_t_kept h_t_aside h_t_far h_t_then h_t_row h_t_mays h_t_firstRow h_t_low h_t_high t_noOlder t_thanThis t_known t_knownAge t_moved h_t_lowOne h_t_highOne h_t_ways t_met h_t_left t_hours t_greatest h_t_text t_typed t_at t_start t_token t_value h_t_verbs h_t_nums t_items)), (h_t_book, .inl (cI, 460, .inl t_book))] → va_S A s.heap H locs → ∀ ls : Array Slot, lv_has ls 4 [(0, .ref h_t), (1, .int p1), (2, .int x13), (3, .int x14)] → W p l e rmX10_ofScholar s m args below meth c H locs 0 0 Q (F0 m 4 ls []) := by
    intro fu16
    induction fu16 with
    | zero =>
      intro x13 x14 x12 hf
      unfold f_X10_ofScholar_L1 at hf
      exact none_ne hf
    | succ fu16 ih15 =>
      intro x13 x14 x12 hf hX17 H locs hP hD hS ls hl
      unfold f_X10_ofScholar_L1 at hf
      refine lv_iload_n hx hb dX10_ofScholar_4 rfl (lv_at hl 3 rfl) ?_
      refine lv_aload_n hx hb dX10_ofScholar_5 rfl (lv_at hl 0 rfl) ?_
      refine va_get (D := (dC, dI)) (ci := 8) (v := .ref h_t_book) (C := RX10) (T := TX10) (N := 32) hx hb hts (in1 tw_X10) hown hK hP 0 rfl rfl 0 (by decide) (hts _ (List.mem_cons_of_mem _ kw_116)) (fun _ h9 => h9) rfl dX10_ofScholar_6 ?_
      refine lv_iconst (v := (4 : Int32)) hx hb dX10_ofScholar_9 (by decide) ?_
      obtain ⟨g18, hf⟩ := chk_some hf
      refine va_iald hx hb hK hP 1 0 rfl rfl (gin_in g18) dX10_ofScholar_10 ?_
      refine lv_icmp_ge (tgt := 40) hx hb dX10_ofScholar_11 (by decide) (fun c19 => ?_) (fun c19 => ?_)
      · replace hf := ifp c19 hf
        obtain rfl := inj1 hf
        exact hX17 _ _ hP hD hS _ (lv_sub hl [2] rfl)
      · replace hf := ifn c19 hf
        refine lv_iload_n hx hb dX10_ofScholar_14 rfl (lv_at hl 2 rfl) ?_
        refine lv_aload_n hx hb dX10_ofScholar_15 rfl (lv_at hl 0 rfl) ?_
        refine lv_iload_n hx hb dX10_ofScholar_16 rfl (lv_at hl 3 rfl) ?_
        refine lv_iconst (v := (0 : Int32)) hx hb dX10_ofScholar_17 (by decide) ?_
        obtain ⟨r20, hg21, hf⟩ := bd1_some hf
        refine CM_callV (C := RX10) (As := [.int x14, .int (0 : Int32)]) (rest := [.int x13]) (wc := [(h_t, .inr (8, fX10 h_t_book h_t_images h_t_kept h_t_aside h_t_far h_t_then h_t_row h_t_mays h_t_firstRow h_t_low h_t_high t_noOlder t_thanThis t_known t_knownAge t_moved h_t_lowOne h_t_highOne h_t_ways t_met h_t_left t_hours t_greatest h_t_text t_typed t_at t_start t_token t_value h_t_verbs h_t_nums t_items)), (h_t_book, .inl (cI, 460, .inl t_book))]) (w1 := [(h_t, .inr (8, fX10 h_t_book h_t_images h_t_kept h_t_aside h_t_far h_t_then h_t_row h_t_mays h_t_firstRow h_t_low h_t_high t_noOlder t_thanThis t_known t_knownAge t_moved h_t_lowOne h_t_highOne h_t_ways t_met h_t_left t_hours t_greatest h_t_text t_typed t_at t_start t_token t_value h_t_verbs h_t_nums t_items)), (h_t_book, .inl (cI, 460, .inl t_book))]) (wr := []) (wo := [(h_t, .inr (8, fX10 h_t_book h_t_images h_t_kept h_t_aside h_t_far h_t_then h_t_row h_t_mays h_t_firstRow h_t_low h_t_high t_noOlder t_thanThis t_known t_knownAge t_moved h_t_lowOne h_t_highOne h_t_ways t_met h_t_left t_hours t_greatest h_t_text t_typed t_at t_start t_token t_value h_t_verbs h_t_nums t_items)), (h_t_book, .inl (cI, 460, .inl t_book))]) (v := (some (.int r20))) ⟨hx, hb, hml, hown, hts⟩ (c_X10_factAt l dC dI cI cZ te h_t h_t_book h_t_images h_t_kept h_t_aside h_t_far h_t_then h_t_row h_t_mays h_t_firstRow h_t_low h_t_high h_t_lowOne h_t_highOne h_t_ways h_t_left h_t_text h_t_verbs h_t_nums t_noOlder t_thanThis t_known t_knownAge t_moved t_met t_hours t_greatest t_typed t_at t_start t_token t_value t_items t_book x14 (0 : Int32) r20 hg21) (cwV 2 hts (gV kw_235 kw_236 kw_237 kw_159 kw_238) rfl rfl rfl (by decide +kernel) ⟨Nat.le_of_ble_eq_true rfl, Nat.le_of_ble_eq_true rfl⟩) (kS_env te) hK hP hD hS hA hE [0, 1] [] [0, 1] rfl rfl (by decide) (by decide) (by decide) (by decide) rfl 0 8 rfl rfl rfl rfl hl.1 rfl (Nat.le_of_ble_eq_true rfl) dX10_ofScholar_18 ⟨Nat.zero_le _, Nat.zero_le _⟩ (fun H locs hP hD hS => ?_)
        show W p l e rmX10_ofScholar s m args below meth c H locs 0 0 Q (F0 m 21 ls [.int r20, .int x13])
        refine lv_iload_n hx hb dX10_ofScholar_21 rfl (lv_at hl 1 rfl) ?_
        refine lv_icmp_ne (tgt := 31) hx hb dX10_ofScholar_22 (by decide) (fun c22 => ?_) (fun c22 => ?_)
        · replace hf := ifn c22 hf
          refine lv_iconst (v := (0 : Int32)) hx hb dX10_ofScholar_31 (by decide) ?_
          refine lv_ior hx hb dX10_ofScholar_32 ?_
          obtain ⟨x23, e24, hf⟩ := nm_some hf
          refine lv_tope e24 ?_
          refine lv_istore_n (lv' := [(2, .int x23), (0, .ref h_t), (1, .int p1), (3, .int x14)]) hx hb dX10_ofScholar_33 rfl hl (by decide) rfl (fun ls hl => ?_)
          refine lv_iinc (v := (x14 + (1 : Int32))) (lv' := [(3, .int (x14 + (1 : Int32))), (2, .int x23), (0, .ref h_t), (1, .int p1)]) hx hb dX10_ofScholar_34 hl (k := 3) rfl rfl (by decide) rfl (fun ls hl => ?_)
          refine lv_goto (tgt := 4) hx hb dX10_ofScholar_37 (by decide) ?_
          exact ih15 _ _ _ hf hX17 _ _ hP hD hS _ (lv_sub hl [2, 3, 1, 0] rfl)
        · replace hf := ifp c22 hf
          refine lv_iconst (v := (1 : Int32)) hx hb dX10_ofScholar_25 (by decide) ?_
          refine lv_iload_n hx hb dX10_ofScholar_26 rfl (lv_at hl 3 rfl) ?_
          refine lv_ishl hx hb dX10_ofScholar_27 ?_
          refine lv_goto (tgt := 32) hx hb dX10_ofScholar_28 (by decide) ?_
          refine lv_ior hx hb dX10_ofScholar_32 ?_
          obtain ⟨x25, e26, hf⟩ := nm_some hf
          refine lv_tope e26 ?_
          refine lv_istore_n (lv' := [(2, .int x25), (0, .ref h_t), (1, .int p1), (3, .int x14)]) hx hb dX10_ofScholar_33 rfl hl (by decide) rfl (fun ls hl => ?_)
          refine lv_iinc (v := (x14 + (1 : Int32))) (lv' := [(3, .int (x14 + (1 : Int32))), (2, .int x25), (0, .ref h_t), (1, .int p1)]) hx hb dX10_ofScholar_34 hl (k := 3) rfl rfl (by decide) rfl (fun ls hl => ?_)
          refine lv_goto (tgt := 4) hx hb dX10_ofScholar_37 (by decide) ?_
          exact ih15 _ _ _ hf hX17 _ _ hP hD hS _ (lv_sub hl [2, 3, 1, 0] rfl)
  obtain ⟨x12, hg, hf⟩ := bd1_some hf
  refine L27 FU _ _ _ hg ?_ _ _ hP hD hS _ (lv_sub hl [2, 3, 1, 0] rfl)
  · intro H locs hP hD hS ls hl
    refine lv_iload_n hx hb dX10_ofScholar_40 rfl (lv_at hl 0 rfl) ?_
    obtain rfl := inj1 hf
    subst hQ
    exact CM_iret hx hb hr rfl hlocks hAe hP hD hS dX10_ofScholar_41
def rmX10_parted : Room := { frames := 4, cells := 0, slots := 0, locals := 90 }
abbrev wqX10_parted : List Cond := Cond.code yX10_parted cX10_parted 3 (some .int) :: tG
set_option maxHeartbeats 4000000 in
set_option maxRecDepth 100000 in
theorem c_X10_parted (l : Launch) (dC : Nat → ClassId) (dI : Nat → Nat → Nat) (cI cZ : ClassId) (te : Nat → Nat) (h_t : Nat) (h_t_book : Nat) (h_t_images : Nat) (h_t_kept : Nat) (h_t_aside : Nat) (h_t_far : Nat) (h_t_then : Nat) (h_t_row : Nat) (h_t_mays : Nat) (h_t_firstRow : Nat) (h_t_low : Nat) (h_t_high : Nat) (h_t_lowOne : Nat) (h_t_highOne : Nat) (h_t_ways : Nat) (h_t_left : Nat) (h_t_text : Nat) (h_t_verbs : Nat) (h_t_nums : Nat) (t_noOlder : Int32) (t_thanThis : Int32) (t_known : Int32) (t_knownAge : Int32) (t_moved : Int32) (t_met : Int32) (t_hours : Int32) (t_greatest : Int32) (t_typed : Int32) (t_at : Int32) (t_start : Int32) (t_token : Int32) (t_value : Int32) (t_items : Int32) (t_book : Nat → Int32) (t_low : Nat → Int32) (t_high : Nat → Int32) (t_lowOne : Nat → Int32) (t_highOne : Nat → Int32) (o0 : Int32) (o1 : Int32) (o2 : Int32) (o3 : Int32) (o4 : Nat → Int32) (o5 : Nat → Int32) (o6 : Nat → Int32) (o7 : Nat → Int32) (hf : f_X10_parted t_thanThis t_knownAge t_book t_low t_high t_lowOne t_highOne = some (o0, o1, o2, o3, o4, o5, o6, o7)) : CM l yX10_parted wqX10_parted rmX10_parted (kS te) dC dI cI cZ [.ref h_t] [(h_t, .inr (8, fX10 h_t_book h_t_images h_t_kept h_t_aside h_t_far h_t_then h_t_row h_t_mays h_t_firstRow h_t_low h_t_high t_noOlder t_thanThis t_known t_knownAge t_moved h_t_lowOne h_t_highOne h_t_ways t_met h_t_left t_hours t_greatest h_t_text t_typed t_at t_start t_token t_value h_t_verbs h_t_nums t_items)), (h_t_book, .inl (cI, 460, .inl t_book)), (h_t_low, .inl (cI, 8, .inl t_low)), (h_t_high, .inl (cI, 8, .inl t_high)), (h_t_lowOne, .inl (cI, 8, .inl t_lowOne)), (h_t_highOne, .inl (cI, 8, .inl t_highOne))] [(h_t, .inr (8, fX10 h_t_book h_t_images h_t_kept h_t_aside h_t_far h_t_then h_t_row h_t_mays h_t_firstRow h_t_low h_t_high o1 t_thanThis o2 t_knownAge o3 h_t_lowOne h_t_highOne h_t_ways t_met h_t_left t_hours t_greatest h_t_text t_typed t_at t_start t_token t_value h_t_verbs h_t_nums t_items)), (h_t_book, .inl (cI, 460, .inl t_book)), (h_t_low, .inl (cI, 8, .inl o4)), (h_t_high, .inl (cI, 8, .inl o5)), (h_t_lowOne, .inl (cI, 8, .inl o6)), (h_t_highOne, .inl (cI, 8, .inl o7))] (some (.int o0)) := by
  refine CM_of (cc := cX10_parted) (maxL := 3) (ret := (some .int)) (by decide +kernel) rfl (Nat.le_of_ble_eq_true rfl) ?_
  intro p e s m args below meth c A Q hx hb hr hml hown hts hlocks hA hK hP hD hS hE hQ hAe ls hl
  have hown : s.vm.findClass RX10 = some m.cls := hown
  have hl : lv_has ls 3 [(0, .ref h_t)] := hl
  unfold f_X10_parted at hf
  refine lv_aload_n hx hb dX10_parted_0 rfl (lv_at hl 0 rfl) ?_
  refine lv_aload_n hx hb dX10_parted_1 rfl (lv_at hl 0 rfl) ?_
  refine lv_iconst (v := (0 : Int32)) hx hb dX10_parted_2 (by decide) ?_
  obtain ⟨r1, hg2, hf⟩ := bd1_some hf
  refine CM_callV (C := RX10) (As := [.int (0 : Int32)]) (rest := [.ref h_t]) (wc := [(h_t, .inr (8, fX10 h_t_book h_t_images h_t_kept h_t_aside h_t_far h_t_then h_t_row h_t_mays h_t_firstRow h_t_low h_t_high t_noOlder t_thanThis t_known t_knownAge t_moved h_t_lowOne h_t_highOne h_t_ways t_met h_t_left t_hours t_greatest h_t_text t_typed t_at t_start t_token t_value h_t_verbs h_t_nums t_items)), (h_t_book, .inl (cI, 460, .inl t_book))]) (w1 := [(h_t, .inr (8, fX10 h_t_book h_t_images h_t_kept h_t_aside h_t_far h_t_then h_t_row h_t_mays h_t_firstRow h_t_low h_t_high t_noOlder t_thanThis t_known t_knownAge t_moved h_t_lowOne h_t_highOne h_t_ways t_met h_t_left t_hours t_greatest h_t_text t_typed t_at t_start t_token t_value h_t_verbs h_t_nums t_items)), (h_t_book, .inl (cI, 460, .inl t_book))]) (wr := [(h_t_low, .inl (cI, 8, .inl t_low)), (h_t_high, .inl (cI, 8, .inl t_high)), (h_t_lowOne, .inl (cI, 8, .inl t_lowOne)), (h_t_highOne, .inl (cI, 8, .inl t_highOne))]) (wo := [(h_t, .inr (8, fX10 h_t_book h_t_images h_t_kept h_t_aside h_t_far h_t_then h_t_row h_t_mays h_t_firstRow h_t_low h_t_high t_noOlder t_thanThis t_known t_knownAge t_moved h_t_lowOne h_t_highOne h_t_ways t_met h_t_left t_hours t_greatest h_t_text t_typed t_at t_start t_token t_value h_t_verbs h_t_nums t_items)), (h_t_book, .inl (cI, 460, .inl t_book)), (h_t_low, .inl (cI, 8, .inl t_low)), (h_t_high, .inl (cI, 8, .inl t_high)), (h_t_lowOne, .inl (cI, 8, .inl t_lowOne)), (h_t_highOne, .inl (cI, 8, .inl t_highOne))]) (v := (some (.int r1))) ⟨hx, hb, hml, hown, hts⟩ (c_X10_ofScholar l dC dI cI cZ te h_t h_t_book h_t_images h_t_kept h_t_aside h_t_far h_t_then h_t_row h_t_mays h_t_firstRow h_t_low h_t_high h_t_lowOne h_t_highOne h_t_ways h_t_left h_t_text h_t_verbs h_t_nums t_noOlder t_thanThis t_known t_knownAge t_moved t_met t_hours t_greatest t_typed t_at t_start t_token t_value t_items t_book (0 : Int32) r1 hg2) (cwV 1 hts (gV kw_274 kw_275 kw_276 kw_159 kw_277) rfl rfl rfl (by decide +kernel) ⟨Nat.le_of_ble_eq_true rfl, Nat.le_of_ble_eq_true rfl⟩) (kS_env te) hK hP hD hS hA hE [0, 1] [2, 3, 4, 5] [4, 5, 0, 1, 2, 3] rfl rfl (by decide) (by decide) (by decide) (by decide) rfl 0 8 rfl rfl rfl rfl hl.1 rfl (Nat.le_of_ble_eq_true rfl) dX10_parted_3 ⟨Nat.zero_le _, Nat.zero_le _⟩ (fun H locs hP hD hS => ?_)
  show W p l e rmX10_parted s m args below meth c H locs 0 0 Q (F0 m 6 ls [.int r1, .ref h_t])
  obtain ⟨r3, x4, x5, x6, y7, y8, hg9, hf⟩ := bd6_some hf
  refine CM_callV (C := RX10) (As := [.int r1]) (rest := []) (wc := [(h_t, .inr (8, fX10 h_t_book h_t_images h_t_kept h_t_aside h_t_far h_t_then h_t_row h_t_mays h_t_firstRow h_t_low h_t_high t_noOlder t_thanThis t_known t_knownAge t_moved h_t_lowOne h_t_highOne h_t_ways t_met h_t_left t_hours t_greatest h_t_text t_typed t_at t_start t_token t_value h_t_verbs h_t_nums t_items)), (h_t_low, .inl (cI, 8, .inl t_low)), (h_t_high, .inl (cI, 8, .inl t_high)), (h_t_book, .inl (cI, 460, .inl t_book))]) (w1 := [(h_t, .inr (8, fX10 h_t_book h_t_images h_t_kept h_t_aside h_t_far h_t_then h_t_row h_t_mays h_t_firstRow h_t_low h_t_high x4 t_thanThis x5 t_knownAge x6 h_t_lowOne h_t_highOne h_t_ways t_met h_t_left t_hours t_greatest h_t_text t_typed t_at t_start t_token t_value h_t_verbs h_t_nums t_items)), (h_t_low, .inl (cI, 8, .inl y7)), (h_t_high, .inl (cI, 8, .inl y8)), (h_t_book, .inl (cI, 460, .inl t_book))]) (wr := [(h_t_lowOne, .inl (cI, 8, .inl t_lowOne)), (h_t_highOne, .inl (cI, 8, .inl t_highOne))]) (wo := [(h_t, .inr (8, fX10 h_t_book h_t_images h_t_kept h_t_aside h_t_far h_t_then h_t_row h_t_mays h_t_firstRow h_t_low h_t_high x4 t_thanThis x5 t_knownAge x6 h_t_lowOne h_t_highOne h_t_ways t_met h_t_left t_hours t_greatest h_t_text t_typed t_at t_start t_token t_value h_t_verbs h_t_nums t_items)), (h_t_book, .inl (cI, 460, .inl t_book)), (h_t_low, .inl (cI, 8, .inl y7)), (h_t_high, .inl (cI, 8, .inl y8)), (h_t_lowOne, .inl (cI, 8, .inl t_lowOne)), (h_t_highOne, .inl (cI, 8, .inl t_highOne))]) (v := (some (.int r3))) ⟨hx, hb, hml, hown, hts⟩ (c_X10_plain l dC dI cI cZ te h_t h_t_book h_t_images h_t_kept h_t_aside h_t_far h_t_then h_t_row h_t_mays h_t_firstRow h_t_low h_t_high h_t_lowOne h_t_highOne h_t_ways h_t_left h_t_text h_t_verbs h_t_nums t_noOlder t_thanThis t_known t_knownAge t_moved t_met t_hours t_greatest t_typed t_at t_start t_token t_value t_items t_low t_high t_book r1 r3 x4 x5 x6 y7 y8 hg9) (cwV 1 hts (gV kw_259 kw_260 kw_261 kw_159 kw_262) rfl rfl rfl (by decide +kernel) ⟨Nat.le_of_ble_eq_true rfl, Nat.le_of_ble_eq_true rfl⟩) (kS_env te) hK hP hD hS hA hE [0, 2, 3, 1] [4, 5] [2, 5, 3, 4, 0, 1] rfl rfl (by decide) (by decide) (by decide) (by decide) rfl 0 8 rfl rfl rfl rfl hl.1 rfl (Nat.le_of_ble_eq_true rfl) dX10_parted_6 ⟨Nat.zero_le _, Nat.zero_le _⟩ (fun H locs hP hD hS => ?_)
  show W p l e rmX10_parted s m args below meth c H locs 0 0 Q (F0 m 9 ls [.int r3])
  refine lv_if_ne (tgt := 15) hx hb dX10_parted_9 (by decide) (fun c10 => ?_) (fun c10 => ?_)
  · replace hf := ifn c10 hf
    refine lv_iconst (v := (0 : Int32)) hx hb dX10_parted_15 (by decide) ?_
    refine lv_istore_n (lv' := [(1, .int (0 : Int32)), (0, .ref h_t)]) hx hb dX10_parted_16 rfl hl (by decide) rfl (fun ls hl => ?_)
    have L50 : ∀ (fu34 : Nat) (y30 : Nat → Int32) (y31 : Nat → Int32) (x32 : Int32) (y28 : Nat → Int32) (y29 : Nat → Int32), f_X10_parted_L1 t_book y7 y8 fu34 y30 y31 x32 = some (y28, y29) → (∀ (H : Heap) (locs : List Loc), va_P (dC, dI) vwCl [(h_t, .inr (8, fX10 h_t_book h_t_images h_t_kept h_t_aside h_t_far h_t_then h_t_row h_t_mays h_t_firstRow h_t_low h_t_high x4 t_thanThis x5 t_knownAge x6 h_t_lowOne h_t_highOne h_t_ways t_met h_t_left t_hours t_greatest h_t_text t_typed t_at t_start t_token t_value h_t_verbs h_t_nums t_items)), (h_t_book, .inl (cI, 460, .inl t_book)), (h_t_low, .inl (cI, 8, .inl y7)), (h_t_high, .inl (cI, 8, .inl y8)), (h_t_lowOne, .inl (cI, 8, .inl y29)), (h_t_highOne, .inl (cI, 8, .inl y28))] H → va_D A [(h_t, .inr (8, fX10 h_t_book h_t_images h_t_kept h_t_aside h_t_far h_t_then h_t_row h_t_mays h_t_firstRow h_t_low h_t_high x4 t_thanThis x5 t_knownAge x6 h_t_lowOne h_t_highOne h_t_ways t_met h_t_left t_hours t_greatest h_t_text t_typed t_at t_start t_token t_value h_t_verbs h_t_nums t_items)), (h_t_book, .inl (cI, 460, .inl t_book)), (h_t_low, .inl (cI, 8, .inl y7)), (h_t_high, .inl (cI, 8, .inl y8)), (h_t_lowOne, .inl (cI, 8, .inl y29)), (h_t_highOne, .inl (cI, 8, .inl y28))] → va_S A s.heap H locs → ∀ ls : Array Slot, lv_has ls 3 [(0, .ref h_t)] → W p l e rmX10_parted s m args below meth c H locs 0 0 Q (F0 m 57 ls [])) → ∀ (H : Heap) (locs : List Loc), va_P (dC, dI) vwCl [(h_t, .inr (8, fX10 h_t_book h_t_images h_t_kept h_t_aside h_t_far h_t_then h_t_row h_t_mays h_t_firstRow h_t_low h_t_high x4 t_thanThis x5 t_knownAge x6 h_t_lowOne h_t_highOne h_t_ways t_met h_t_left t_hours t_greatest h_t_text t_typed t_at t_start t_token t_value h_t_verbs h_t_nums t_items)), (h_t_book, .inl (cI, 460, .inl t_book)), (h_t_low, .inl (cI, 8, .inl y7)), (h_t_high, .inl (cI, 8, .inl y8)), (h_t_lowOne, .inl (cI, 8, .inl y31)), (h_t_highOne, .inl (cI, 8, .inl y30))] H → va_D A [(h_t, .inr (8, fX10 h_t_book h_t_images h_t_kept h_t_aside h_t_far h_t_then h_t_row h_t_mays h_t_firstRow h_t_low h_t_high x4 t_thanThis x5 t_knownAge x6 h_t_lowOne h_t_highOne h_t_ways t_met h_t_left t_hours t_greatest h_t_text t_typed t_at t_start t_token t_value h_t_verbs h_t_nums t_items)), (h_t_book, .inl (cI, 460, .inl t_book)), (h_t_low, .inl (cI, 8, .inl y7)), (h_t_high, .inl (cI, 8, .inl y8)), (h_t_lowOne, .inl (cI, 8, .inl y31)), (h_t_highOne, .inl (cI, 8, .inl y30))] → va_S A s.heap H locs → ∀ ls : Array Slot, lv_has ls 3 [(0, .ref h_t), (1, .int x32)] → W p l e rmX10_parted s m args below meth c H locs 0 0 Q (F0 m 17 ls []) := by
      intro fu34
      induction fu34 with
      | zero =>
        intro y30 y31 x32 y28 y29 hf
        unfold f_X10_parted_L1 at hf
        exact none_ne hf
      | succ fu34 ih33 =>
        intro y30 y31 x32 y28 y29 hf hX35 H locs hP hD hS ls hl
        unfold f_X10_parted_L1 at hf
        refine lv_iload_n hx hb dX10_parted_17 rfl (lv_at hl 1 rfl) ?_
        refine lv_aload_n hx hb dX10_parted_18 rfl (lv_at hl 0 rfl) ?_
        refine va_get (D := (dC, dI)) (ci := 8) (v := .ref h_t_book) (C := RX10) (T := TX10) (N := 32) hx hb hts (in1 tw_X10) hown hK hP 0 rfl rfl 0 (by decide) (hts _ (List.mem_cons_of_mem _ kw_116)) (fun _ h9 => h9) rfl dX10_parted_19 ?_
        refine lv_iconst (v := (3 : Int32)) hx hb dX10_parted_22 (by decide) ?_
        obtain ⟨g36, hf⟩ := chk_some hf
        refine va_iald hx hb hK hP 1 0 rfl rfl (gin_in g36) dX10_parted_23 ?_
        refine lv_icmp_ge (tgt := 57) hx hb dX10_parted_24 (by decide) (fun c37 => ?_) (fun c37 => ?_)
        · replace hf := ifp c37 hf
          obtain ⟨rfl, rfl⟩ := inj2 hf
          exact hX35 _ _ hP hD hS _ (lv_sub hl [0] rfl)
        · replace hf := ifn c37 hf
          refine lv_aload_n hx hb dX10_parted_27 rfl (lv_at hl 0 rfl) ?_
          refine va_get (D := (dC, dI)) (ci := 8) (v := .ref h_t_lowOne) (C := RX10) (T := TX10) (N := 32) hx hb hts (in1 tw_X10) hown hK hP 0 rfl rfl 16 (by decide) (hts _ (List.mem_cons_of_mem _ kw_128)) (fun _ h9 => h9) rfl dX10_parted_28 ?_
          refine lv_iload_n hx hb dX10_parted_31 rfl (lv_at hl 1 rfl) ?_
          refine lv_aload_n hx hb dX10_parted_32 rfl (lv_at hl 0 rfl) ?_
          refine va_get (D := (dC, dI)) (ci := 8) (v := .ref h_t_low) (C := RX10) (T := TX10) (N := 32) hx hb hts (in1 tw_X10) hown hK hP 0 rfl rfl 9 (by decide) (hts _ (List.mem_cons_of_mem _ kw_126)) (fun _ h9 => h9) rfl dX10_parted_33 ?_
          refine lv_iload_n hx hb dX10_parted_36 rfl (lv_at hl 1 rfl) ?_
          obtain ⟨g38, hf⟩ := chk_some hf
          refine va_iald hx hb hK hP 2 0 rfl rfl (gin_in g38) dX10_parted_37 ?_
          obtain ⟨x39, e40, hf⟩ := nm_some hf
          refine lv_tope e40 ?_
          obtain ⟨g41, hf⟩ := chk_some hf
          obtain ⟨y42, e43, hf⟩ := nm_some hf
          refine va_iast hx hb hK hP hD hS 4 0 rfl rfl (gin_in g41) dX10_parted_38 (fun H locs hP hD hS => ?_)
          have hP : va_P (dC, dI) vwCl [(h_t, .inr (8, fX10 h_t_book h_t_images h_t_kept h_t_aside h_t_far h_t_then h_t_row h_t_mays h_t_firstRow h_t_low h_t_high x4 t_thanThis x5 t_knownAge x6 h_t_lowOne h_t_highOne h_t_ways t_met h_t_left t_hours t_greatest h_t_text t_typed t_at t_start t_token t_value h_t_verbs h_t_nums t_items)), (h_t_book, .inl (cI, 460, .inl t_book)), (h_t_low, .inl (cI, 8, .inl y7)), (h_t_high, .inl (cI, 8, .inl y8)), (h_t_lowOne, .inl (cI, 8, .inl y42)), (h_t_highOne, .inl (cI, 8, .inl y30))] H := by rw [e43]; exact hP
          have hD : va_D A [(h_t, .inr (8, fX10 h_t_book h_t_images h_t_kept h_t_aside h_t_far h_t_then h_t_row h_t_mays h_t_firstRow h_t_low h_t_high x4 t_thanThis x5 t_knownAge x6 h_t_lowOne h_t_highOne h_t_ways t_met h_t_left t_hours t_greatest h_t_text t_typed t_at t_start t_token t_value h_t_verbs h_t_nums t_items)), (h_t_book, .inl (cI, 460, .inl t_book)), (h_t_low, .inl (cI, 8, .inl y7)), (h_t_high, .inl (cI, 8, .inl y8)), (h_t_lowOne, .inl (cI, 8, .inl y42)), (h_t_highOne, .inl (cI, 8, .inl y30))] := by rw [e43]; exact hD
          refine lv_aload_n hx hb dX10_parted_39 rfl (lv_at hl 0 rfl) ?_
          refine va_get (D := (dC, dI)) (ci := 8) (v := .ref h_t_highOne) (C := RX10) (T := TX10) (N := 32) hx hb hts (in1 tw_X10) hown hK hP 0 rfl rfl 17 (by decide) (hts _ (List.mem_cons_of_mem _ kw_129)) (fun _ h9 => h9) rfl dX10_parted_40 ?_
          refine lv_iload_n hx hb dX10_parted_43 rfl (lv_at hl 1 rfl) ?_
          refine lv_aload_n hx hb dX10_parted_44 rfl (lv_at hl 0 rfl) ?_
          refine va_get (D := (dC, dI)) (ci := 8) (v := .ref h_t_high) (C := RX10) (T := TX10) (N := 32) hx hb hts (in1 tw_X10) hown hK hP 0 rfl rfl 10 (by decide) (hts _ (List.mem_cons_of_mem _ kw_127)) (fun _ h9 => h9) rfl dX10_parted_45 ?_
          refine lv_iload_n hx hb dX10_parted_48 rfl (lv_at hl 1 rfl) ?_
          obtain ⟨g44, hf⟩ := chk_some hf
          refine va_iald hx hb hK hP 3 0 rfl rfl (gin_in g44) dX10_parted_49 ?_
          obtain ⟨x45, e46, hf⟩ := nm_some hf
          refine lv_tope e46 ?_
          obtain ⟨g47, hf⟩ := chk_some hf
          obtain ⟨y48, e49, hf⟩ := nm_some hf
          refine va_iast hx hb hK hP hD hS 5 0 rfl rfl (gin_in g47) dX10_parted_50 (fun H locs hP hD hS => ?_)
          have hP : va_P (dC, dI) vwCl [(h_t, .inr (8, fX10 h_t_book h_t_images h_t_kept h_t_aside h_t_far h_t_then h_t_row h_t_mays h_t_firstRow h_t_low h_t_high x4 t_thanThis x5 t_knownAge x6 h_t_lowOne h_t_highOne h_t_ways t_met h_t_left t_hours t_greatest h_t_text t_typed t_at t_start t_token t_value h_t_verbs h_t_nums t_items)), (h_t_book, .inl (cI, 460, .inl t_book)), (h_t_low, .inl (cI, 8, .inl y7)), (h_t_high, .inl (cI, 8, .inl y8)), (h_t_lowOne, .inl (cI, 8, .inl y42)), (h_t_highOne, .inl (cI, 8, .inl y48))] H := by rw [e49]; exact hP
          have hD : va_D A [(h_t, .inr (8, fX10 h_t_book h_t_images h_t_kept h_t_aside h_t_far h_t_then h_t_row h_t_mays h_t_firstRow h_t_low h_t_high x4 t_thanThis x5 t_knownAge x6 h_t_lowOne h_t_highOne h_t_ways t_met h_t_left t_hours t_greatest h_t_text t_typed t_at t_start t_token t_value h_t_verbs h_t_nums t_items)), (h_t_book, .inl (cI, 460, .inl t_book)), (h_t_low, .inl (cI, 8, .inl y7)), (h_t_high, .inl (cI, 8, .inl y8)), (h_t_lowOne, .inl (cI, 8, .inl y42)), (h_t_highOne, .inl (cI, 8, .inl y48))] := by rw [e49]; exact hD
          refine lv_iinc (v := (x32 + (1 : Int32))) (lv' := [(1, .int (x32 + (1 : Int32))), (0, .ref h_t)]) hx hb dX10_parted_51 hl (k := 1) rfl rfl (by decide) rfl (fun ls hl => ?_)
          refine lv_goto (tgt := 17) hx hb dX10_parted_54 (by decide) ?_
          exact ih33 _ _ _ _ _ hf hX35 _ _ hP hD hS _ (lv_sub hl [1, 0] rfl)
    obtain ⟨y28, y29, hg, hf⟩ := bd2_some hf
    refine L50 FU _ _ _ _ _ hg ?_ _ _ hP hD hS _ (lv_sub hl [1, 0] rfl)
    · intro H locs hP hD hS ls hl
      refine lv_aload_n hx hb dX10_parted_57 rfl (lv_at hl 0 rfl) ?_
      refine lv_aload_n hx hb dX10_parted_58 rfl (lv_at hl 0 rfl) ?_
      refine lv_iconst (v := (1 : Int32)) hx hb dX10_parted_59 (by decide) ?_
      obtain ⟨r51, hg52, hf⟩ := bd1_some hf
      refine CM_callV (C := RX10) (As := [.int (1 : Int32)]) (rest := [.ref h_t]) (wc := [(h_t, .inr (8, fX10 h_t_book h_t_images h_t_kept h_t_aside h_t_far h_t_then h_t_row h_t_mays h_t_firstRow h_t_low h_t_high x4 t_thanThis x5 t_knownAge x6 h_t_lowOne h_t_highOne h_t_ways t_met h_t_left t_hours t_greatest h_t_text t_typed t_at t_start t_token t_value h_t_verbs h_t_nums t_items)), (h_t_book, .inl (cI, 460, .inl t_book))]) (w1 := [(h_t, .inr (8, fX10 h_t_book h_t_images h_t_kept h_t_aside h_t_far h_t_then h_t_row h_t_mays h_t_firstRow h_t_low h_t_high x4 t_thanThis x5 t_knownAge x6 h_t_lowOne h_t_highOne h_t_ways t_met h_t_left t_hours t_greatest h_t_text t_typed t_at t_start t_token t_value h_t_verbs h_t_nums t_items)), (h_t_book, .inl (cI, 460, .inl t_book))]) (wr := [(h_t_low, .inl (cI, 8, .inl y7)), (h_t_high, .inl (cI, 8, .inl y8)), (h_t_lowOne, .inl (cI, 8, .inl y29)), (h_t_highOne, .inl (cI, 8, .inl y28))]) (wo := [(h_t, .inr (8, fX10 h_t_book h_t_images h_t_kept h_t_aside h_t_far h_t_then h_t_row h_t_mays h_t_firstRow h_t_low h_t_high x4 t_thanThis x5 t_knownAge x6 h_t_lowOne h_t_highOne h_t_ways t_met h_t_left t_hours t_greatest h_t_text t_typed t_at t_start t_token t_value h_t_verbs h_t_nums t_items)), (h_t_book, .inl (cI, 460, .inl t_book)), (h_t_low, .inl (cI, 8, .inl y7)), (h_t_high, .inl (cI, 8, .inl y8)), (h_t_lowOne, .inl (cI, 8, .inl y29)), (h_t_highOne, .inl (cI, 8, .inl y28))]) (v := (some (.int r51))) ⟨hx, hb, hml, hown, hts⟩ (c_X10_ofScholar l dC dI cI cZ te h_t h_t_book h_t_images h_t_kept h_t_aside h_t_far h_t_then h_t_row h_t_mays h_t_firstRow h_t_low h_t_high h_t_lowOne h_t_highOne h_t_ways h_t_left h_t_text h_t_verbs h_t_nums x4 t_thanThis x5 t_knownAge x6 t_met t_hours t_greatest t_typed t_at t_start t_token t_value t_items t_book (1 : Int32) r51 hg52) (cwV 1 hts (gV kw_274 kw_275 kw_276 kw_159 kw_277) rfl rfl rfl (by decide +kernel) ⟨Nat.le_of_ble_eq_true rfl, Nat.le_of_ble_eq_true rfl⟩) (kS_env te) hK hP hD hS hA hE [0, 1] [2, 3, 4, 5] [4, 5, 0, 1, 2, 3] rfl rfl (by decide) (by decide) (by decide) (by decide) rfl 0 8 rfl rfl rfl rfl hl.1 rfl (Nat.le_of_ble_eq_true rfl) dX10_parted_60 ⟨Nat.zero_le _, Nat.zero_le _⟩ (fun H locs hP hD hS => ?_)
      show W p l e rmX10_parted s m args below meth c H locs 0 0 Q (F0 m 63 ls [.int r51, .ref h_t])
      obtain ⟨r53, x54, x55, x56, y57, y58, hg59, hf⟩ := bd6_some hf
      refine CM_callV (C := RX10) (As := [.int r51]) (rest := []) (wc := [(h_t, .inr (8, fX10 h_t_book h_t_images h_t_kept h_t_aside h_t_far h_t_then h_t_row h_t_mays h_t_firstRow h_t_low h_t_high x4 t_thanThis x5 t_knownAge x6 h_t_lowOne h_t_highOne h_t_ways t_met h_t_left t_hours t_greatest h_t_text t_typed t_at t_start t_token t_value h_t_verbs h_t_nums t_items)), (h_t_low, .inl (cI, 8, .inl y7)), (h_t_high, .inl (cI, 8, .inl y8)), (h_t_book, .inl (cI, 460, .inl t_book))]) (w1 := [(h_t, .inr (8, fX10 h_t_book h_t_images h_t_kept h_t_aside h_t_far h_t_then h_t_row h_t_mays h_t_firstRow h_t_low h_t_high x54 t_thanThis x55 t_knownAge x56 h_t_lowOne h_t_highOne h_t_ways t_met h_t_left t_hours t_greatest h_t_text t_typed t_at t_start t_token t_value h_t_verbs h_t_nums t_items)), (h_t_low, .inl (cI, 8, .inl y57)), (h_t_high, .inl (cI, 8, .inl y58)), (h_t_book, .inl (cI, 460, .inl t_book))]) (wr := [(h_t_lowOne, .inl (cI, 8, .inl y29)), (h_t_highOne, .inl (cI, 8, .inl y28))]) (wo := [(h_t, .inr (8, fX10 h_t_book h_t_images h_t_kept h_t_aside h_t_far h_t_then h_t_row h_t_mays h_t_firstRow h_t_low h_t_high x54 t_thanThis x55 t_knownAge x56 h_t_lowOne h_t_highOne h_t_ways t_met h_t_left t_hours t_greatest h_t_text t_typed t_at t_start t_token t_value h_t_verbs h_t_nums t_items)), (h_t_book, .inl (cI, 460, .inl t_book)), (h_t_low, .inl (cI, 8, .inl y57)), (h_t_high, .inl (cI, 8, .inl y58)), (h_t_lowOne, .inl (cI, 8, .inl y29)), (h_t_highOne, .inl (cI, 8, .inl y28))]) (v := (some (.int r53))) ⟨hx, hb, hml, hown, hts⟩ (c_X10_plain l dC dI cI cZ te h_t h_t_book h_t_images h_t_kept h_t_aside h_t_far h_t_then h_t_row h_t_mays h_t_firstRow h_t_low h_t_high h_t_lowOne h_t_highOne h_t_ways h_t_left h_t_text h_t_verbs h_t_nums x4 t_thanThis x5 t_knownAge x6 t_met t_hours t_greatest t_typed t_at t_start t_token t_value t_items y7 y8 t_book r51 r53 x54 x55 x56 y57 y58 hg59) (cwV 1 hts (gV kw_259 kw_260 kw_261 kw_159 kw_262) rfl rfl rfl (by decide +kernel) ⟨Nat.le_of_ble_eq_true rfl, Nat.le_of_ble_eq_true rfl⟩) (kS_env te) hK hP hD hS hA hE [0, 2, 3, 1] [4, 5] [2, 5, 3, 4, 0, 1] rfl rfl (by decide) (by decide) (by decide) (by decide) rfl 0 8 rfl rfl rfl rfl hl.1 rfl (Nat.le_of_ble_eq_true rfl) dX10_parted_63 ⟨Nat.zero_le _, Nat.zero_le _⟩ (fun H locs hP hD hS => ?_)
      show W p l e rmX10_parted s m args below meth c H locs 0 0 Q (F0 m 66 ls [.int r53])
      refine lv_if_ne (tgt := 72) hx hb dX10_parted_66 (by decide) (fun c60 => ?_) (fun c60 => ?_)
      · replace hf := ifn c60 hf
        refine lv_iconst (v := (-1 : Int32)) hx hb dX10_parted_72 (by decide) ?_
        refine lv_istore_n (lv' := [(1, .int (-1 : Int32)), (0, .ref h_t)]) hx hb dX10_parted_73 rfl hl (by decide) rfl (fun ls hl => ?_)
        refine lv_aload_n hx hb dX10_parted_74 rfl (lv_at hl 1 rfl) ?_
        refine va_get (D := (dC, dI)) (ci := 8) (v := .ref h_t_book) (C := RX10) (T := TX10) (N := 32) hx hb hts (in1 tw_X10) hown hK hP 0 rfl rfl 0 (by decide) (hts _ (List.mem_cons_of_mem _ kw_116)) (fun _ h9 => h9) rfl dX10_parted_75 ?_
        refine lv_iconst (v := (3 : Int32)) hx hb dX10_parted_78 (by decide) ?_
        obtain ⟨g61, hf⟩ := chk_some hf
        refine va_iald hx hb hK hP 1 0 rfl rfl (gin_in g61) dX10_parted_79 ?_
        refine lv_iconst (v := (1 : Int32)) hx hb dX10_parted_80 (by decide) ?_
        refine lv_isub hx hb dX10_parted_81 ?_
        obtain ⟨x62, e63, hf⟩ := nm_some hf
        refine lv_tope e63 ?_
        refine lv_istore_n (lv' := [(2, .int x62), (1, .int (-1 : Int32)), (0, .ref h_t)]) hx hb dX10_parted_82 rfl hl (by decide) rfl (fun ls hl => ?_)
        have L86 : ∀ (fu77 : Nat) (x74 : Int32) (x75 : Int32) (x73 : Int32), f_X10_parted_L2 y58 y29 y57 y28 fu77 x74 x75 = some x73 → (∀ (H : Heap) (locs : List Loc), va_P (dC, dI) vwCl [(h_t, .inr (8, fX10 h_t_book h_t_images h_t_kept h_t_aside h_t_far h_t_then h_t_row h_t_mays h_t_firstRow h_t_low h_t_high x54 t_thanThis x55 t_knownAge x56 h_t_lowOne h_t_highOne h_t_ways t_met h_t_left t_hours t_greatest h_t_text t_typed t_at t_start t_token t_value h_t_verbs h_t_nums t_items)), (h_t_book, .inl (cI, 460, .inl t_book)), (h_t_low, .inl (cI, 8, .inl y57)), (h_t_high, .inl (cI, 8, .inl y58)), (h_t_lowOne, .inl (cI, 8, .inl y29)), (h_t_highOne, .inl (cI, 8, .inl y28))] H → va_D A [(h_t, .inr (8, fX10 h_t_book h_t_images h_t_kept h_t_aside h_t_far h_t_then h_t_row h_t_mays h_t_firstRow h_t_low h_t_high x54 t_thanThis x55 t_knownAge x56 h_t_lowOne h_t_highOne h_t_ways t_met h_t_left t_hours t_greatest h_t_text t_typed t_at t_start t_token t_value h_t_verbs h_t_nums t_items)), (h_t_book, .inl (cI, 460, .inl t_book)), (h_t_low, .inl (cI, 8, .inl y57)), (h_t_high, .inl (cI, 8, .inl y58)), (h_t_lowOne, .inl (cI, 8, .inl y29)), (h_t_highOne, .inl (cI, 8, .inl y28))] → va_S A s.heap H locs → ∀ ls : Array Slot, lv_has ls 3 [(1, .int x73)] → W p l e rmX10_parted s m args below meth c H locs 0 0 Q (F0 m 129 ls [])) → ∀ (H : Heap) (locs : List Loc), va_P (dC, dI) vwCl [(h_t, .inr (8, fX10 h_t_book h_t_images h_t_kept h_t_aside h_t_far h_t_then h_t_row h_t_mays h_t_firstRow h_t_low h_t_high x54 t_thanThis x55 t_knownAge x56 h_t_lowOne h_t_highOne h_t_ways t_met h_t_left t_hours t_greatest h_t_text t_typed t_at t_start t_token t_value h_t_verbs h_t_nums t_items)), (h_t_book, .inl (cI, 460, .inl t_book)), (h_t_low, .inl (cI, 8, .inl y57)), (h_t_high, .inl (cI, 8, .inl y58)), (h_t_lowOne, .inl (cI, 8, .inl y29)), (h_t_highOne, .inl (cI, 8, .inl y28))] H → va_D A [(h_t, .inr (8, fX10 h_t_book h_t_images h_t_kept h_t_aside h_t_far h_t_then h_t_row h_t_mays h_t_firstRow h_t_low h_t_high x54 t_thanThis x55 t_knownAge x56 h_t_lowOne h_t_highOne h_t_ways t_met h_t_left t_hours t_greatest h_t_text t_typed t_at t_start t_token t_value h_t_verbs h_t_nums t_items)), (h_t_book, .inl (cI, 460, .inl t_book)), (h_t_low, .inl (cI, 8, .inl y57)), (h_t_high, .inl (cI, 8, .inl y58)), (h_t_lowOne, .inl (cI, 8, .inl y29)), (h_t_highOne, .inl (cI, 8, .inl y28))] → va_S A s.heap H locs → ∀ ls : Array Slot, lv_has ls 3 [(0, .ref h_t), (1, .int x74), (2, .int x75)] → W p l e rmX10_parted s m args below meth c H locs 0 0 Q (F0 m 83 ls []) := by
          intro fu77
          induction fu77 with
          | zero =>
            intro x74 x75 x73 hf
            unfold f_X10_parted_L2 at hf
            exact none_ne hf
          | succ fu77 ih76 =>
            intro x74 x75 x73 hf hX78 H locs hP hD hS ls hl
            unfold f_X10_parted_L2 at hf
            refine lv_iload_n hx hb dX10_parted_83 rfl (lv_at hl 2 rfl) ?_
            refine lv_if_lt (tgt := 129) hx hb dX10_parted_84 (by decide) (fun c79 => ?_) (fun c79 => ?_)
            · replace hf := ifp c79 hf
              obtain rfl := inj1 hf
              exact hX78 _ _ hP hD hS _ (lv_sub hl [1] rfl)
            · replace hf := ifn c79 hf
              refine lv_aload_n hx hb dX10_parted_87 rfl (lv_at hl 0 rfl) ?_
              refine va_get (D := (dC, dI)) (ci := 8) (v := .ref h_t_lowOne) (C := RX10) (T := TX10) (N := 32) hx hb hts (in1 tw_X10) hown hK hP 0 rfl rfl 16 (by decide) (hts _ (List.mem_cons_of_mem _ kw_128)) (fun _ h9 => h9) rfl dX10_parted_88 ?_
              refine lv_iload_n hx hb dX10_parted_91 rfl (lv_at hl 2 rfl) ?_
              obtain ⟨g80, hf⟩ := chk_some hf
              refine va_iald hx hb hK hP 4 0 rfl rfl (gin_in g80) dX10_parted_92 ?_
              refine lv_aload_n hx hb dX10_parted_93 rfl (lv_at hl 0 rfl) ?_
              refine va_get (D := (dC, dI)) (ci := 8) (v := .ref h_t_high) (C := RX10) (T := TX10) (N := 32) hx hb hts (in1 tw_X10) hown hK hP 0 rfl rfl 10 (by decide) (hts _ (List.mem_cons_of_mem _ kw_127)) (fun _ h9 => h9) rfl dX10_parted_94 ?_
              refine lv_iload_n hx hb dX10_parted_97 rfl (lv_at hl 2 rfl) ?_
              obtain ⟨g81, hf⟩ := chk_some hf
              refine va_iald hx hb hK hP 3 0 rfl rfl (gin_in g81) dX10_parted_98 ?_
              refine lv_icmp_gt (tgt := 117) hx hb dX10_parted_99 (by decide) (fun c82 => ?_) (fun c82 => ?_)
              · replace hf := ifp c82 hf
                refine lv_iload_n hx hb dX10_parted_117 rfl (lv_at hl 2 rfl) ?_
                refine lv_goto (tgt := 122) hx hb dX10_parted_118 (by decide) ?_
                refine lv_istore_n (lv' := [(1, .int x75), (0, .ref h_t), (2, .int x75)]) hx hb dX10_parted_122 rfl hl (by decide) rfl (fun ls hl => ?_)
                refine lv_iinc (v := (x75 + (-1 : Int32))) (lv' := [(2, .int (x75 + (-1 : Int32))), (1, .int x75), (0, .ref h_t)]) hx hb dX10_parted_123 hl (k := 2) rfl rfl (by decide) rfl (fun ls hl => ?_)
                refine lv_goto (tgt := 83) hx hb dX10_parted_126 (by decide) ?_
                exact ih76 _ _ _ hf hX78 _ _ hP hD hS _ (lv_sub hl [2, 1, 0] rfl)
              · replace hf := ifn c82 hf
                refine lv_aload_n hx hb dX10_parted_102 rfl (lv_at hl 0 rfl) ?_
                refine va_get (D := (dC, dI)) (ci := 8) (v := .ref h_t_low) (C := RX10) (T := TX10) (N := 32) hx hb hts (in1 tw_X10) hown hK hP 0 rfl rfl 9 (by decide) (hts _ (List.mem_cons_of_mem _ kw_126)) (fun _ h9 => h9) rfl dX10_parted_103 ?_
                refine lv_iload_n hx hb dX10_parted_106 rfl (lv_at hl 2 rfl) ?_
                obtain ⟨g83, hf⟩ := chk_some hf
                refine va_iald hx hb hK hP 2 0 rfl rfl (gin_in g83) dX10_parted_107 ?_
                refine lv_aload_n hx hb dX10_parted_108 rfl (lv_at hl 0 rfl) ?_
                refine va_get (D := (dC, dI)) (ci := 8) (v := .ref h_t_highOne) (C := RX10) (T := TX10) (N := 32) hx hb hts (in1 tw_X10) hown hK hP 0 rfl rfl 17 (by decide) (hts _ (List.mem_cons_of_mem _ kw_129)) (fun _ h9 => h9) rfl dX10_parted_109 ?_
                refine lv_iload_n hx hb dX10_parted_112 rfl (lv_at hl 2 rfl) ?_
                obtain ⟨g84, hf⟩ := chk_some hf
                refine va_iald hx hb hK hP 5 0 rfl rfl (gin_in g84) dX10_parted_113 ?_
                refine lv_icmp_le (tgt := 121) hx hb dX10_parted_114 (by decide) (fun c85 => ?_) (fun c85 => ?_)
                · replace hf := ifp c85 hf
                  refine lv_iload_n hx hb dX10_parted_121 rfl (lv_at hl 1 rfl) ?_
                  refine lv_istore_n (lv' := [(1, .int x74), (0, .ref h_t), (2, .int x75)]) hx hb dX10_parted_122 rfl hl (by decide) rfl (fun ls hl => ?_)
                  refine lv_iinc (v := (x75 + (-1 : Int32))) (lv' := [(2, .int (x75 + (-1 : Int32))), (1, .int x74), (0, .ref h_t)]) hx hb dX10_parted_123 hl (k := 2) rfl rfl (by decide) rfl (fun ls hl => ?_)
                  refine lv_goto (tgt := 83) hx hb dX10_parted_126 (by decide) ?_
                  exact ih76 _ _ _ hf hX78 _ _ hP hD hS _ (lv_sub hl [2, 1, 0] rfl)
                · replace hf := ifn c85 hf
                  refine lv_iload_n hx hb dX10_parted_117 rfl (lv_at hl 2 rfl) ?_
                  refine lv_goto (tgt := 122) hx hb dX10_parted_118 (by decide) ?_
                  refine lv_istore_n (lv' := [(1, .int x75), (0, .ref h_t), (2, .int x75)]) hx hb dX10_parted_122 rfl hl (by decide) rfl (fun ls hl => ?_)
                  refine lv_iinc (v := (x75 + (-1 : Int32))) (lv' := [(2, .int (x75 + (-1 : Int32))), (1, .int x75), (0, .ref h_t)]) hx hb dX10_parted_123 hl (k := 2) rfl rfl (by decide) rfl (fun ls hl => ?_)
                  refine lv_goto (tgt := 83) hx hb dX10_parted_126 (by decide) ?_
                  exact ih76 _ _ _ hf hX78 _ _ hP hD hS _ (lv_sub hl [2, 1, 0] rfl)
        obtain ⟨x73, hg, hf⟩ := bd1_some hf
        refine L86 FU _ _ _ hg ?_ _ _ hP hD hS _ (lv_sub hl [2, 1, 0] rfl)
        · intro H locs hP hD hS ls hl
          refine lv_iload_n hx hb dX10_parted_129 rfl (lv_at hl 0 rfl) ?_
          obtain ⟨rfl, rfl, rfl, rfl, rfl, rfl, rfl, rfl⟩ := inj8 hf
          subst hQ
          exact CM_iret hx hb hr rfl hlocks hAe hP hD hS dX10_parted_130
      · replace hf := ifp c60 hf
        refine lv_bipush (v := (-5 : Int32)) hx hb dX10_parted_69 (by decide) ?_
        obtain ⟨rfl, rfl, rfl, rfl, rfl, rfl, rfl, rfl⟩ := inj8 hf
        subst hQ
        exact CM_iret hx hb hr rfl hlocks hAe hP hD hS dX10_parted_71
  · replace hf := ifp c10 hf
    refine lv_bipush (v := (-5 : Int32)) hx hb dX10_parted_12 (by decide) ?_
    obtain ⟨rfl, rfl, rfl, rfl, rfl, rfl, rfl, rfl⟩ := inj8 hf
    subst hQ
    exact CM_iret hx hb hr rfl hlocks hAe hP hD hS dX10_parted_14
def rmX10_places : Room := { frames := 0, cells := 0, slots := 0, locals := 0 }
abbrev wqX10_places : List Cond := Cond.code yX10_places cX10_places 3 (some .int) :: tG
set_option maxHeartbeats 4000000 in
set_option maxRecDepth 100000 in
theorem c_X10_places (l : Launch) (dC : Nat → ClassId) (dI : Nat → Nat → Nat) (cI cZ : ClassId) (te : Nat → Nat) (h_t : Nat) (h_t_book : Nat) (h_t_images : Nat) (h_t_kept : Nat) (h_t_aside : Nat) (h_t_far : Nat) (h_t_then : Nat) (h_t_row : Nat) (h_t_mays : Nat) (h_t_firstRow : Nat) (h_t_low : Nat) (h_t_high : Nat) (h_t_lowOne : Nat) (h_t_highOne : Nat) (h_t_ways : Nat) (h_t_left : Nat) (h_t_text : Nat) (h_t_verbs : Nat) (h_t_nums : Nat) (t_noOlder : Int32) (t_thanThis : Int32) (t_known : Int32) (t_knownAge : Int32) (t_moved : Int32) (t_met : Int32) (t_hours : Int32) (t_greatest : Int32) (t_typed : Int32) (t_at : Int32) (t_start : Int32) (t_token : Int32) (t_value : Int32) (t_items : Int32) (t_book : Nat → Int32) (o0 : Int32) (hf : f_X10_places t_book = some o0) : CM l yX10_places wqX10_places rmX10_places (kS te) dC dI cI cZ [.ref h_t] [(h_t, .inr (8, fX10 h_t_book h_t_images h_t_kept h_t_aside h_t_far h_t_then h_t_row h_t_mays h_t_firstRow h_t_low h_t_high t_noOlder t_thanThis t_known t_knownAge t_moved h_t_lowOne h_t_highOne h_t_ways t_met h_t_left t_hours t_greatest h_t_text t_typed t_at t_start t_token t_value h_t_verbs h_t_nums t_items)), (h_t_book, .inl (cI, 460, .inl t_book))] [(h_t, .inr (8, fX10 h_t_book h_t_images h_t_kept h_t_aside h_t_far h_t_then h_t_row h_t_mays h_t_firstRow h_t_low h_t_high t_noOlder t_thanThis t_known t_knownAge t_moved h_t_lowOne h_t_highOne h_t_ways t_met h_t_left t_hours t_greatest h_t_text t_typed t_at t_start t_token t_value h_t_verbs h_t_nums t_items)), (h_t_book, .inl (cI, 460, .inl t_book))] (some (.int o0)) := by
  refine CM_of (cc := cX10_places) (maxL := 3) (ret := (some .int)) (by decide +kernel) rfl (Nat.le_of_ble_eq_true rfl) ?_
  intro p e s m args below meth c A Q hx hb hr hml hown hts hlocks hA hK hP hD hS hE hQ hAe ls hl
  have hown : s.vm.findClass RX10 = some m.cls := hown
  have hl : lv_has ls 3 [(0, .ref h_t)] := hl
  unfold f_X10_places at hf
  refine lv_iconst (v := (0 : Int32)) hx hb dX10_places_0 (by decide) ?_
  refine lv_istore_n (lv' := [(1, .int (0 : Int32)), (0, .ref h_t)]) hx hb dX10_places_1 rfl hl (by decide) rfl (fun ls hl => ?_)
  refine lv_iconst (v := (0 : Int32)) hx hb dX10_places_2 (by decide) ?_
  refine lv_istore_n (lv' := [(2, .int (0 : Int32)), (1, .int (0 : Int32)), (0, .ref h_t)]) hx hb dX10_places_3 rfl hl (by decide) rfl (fun ls hl => ?_)
  have L25 : ∀ (fu15 : Nat) (x12 : Int32) (x13 : Int32) (x11 : Int32), f_X10_places_L1 t_book fu15 x12 x13 = some x11 → (∀ (H : Heap) (locs : List Loc), va_P (dC, dI) vwCl [(h_t, .inr (8, fX10 h_t_book h_t_images h_t_kept h_t_aside h_t_far h_t_then h_t_row h_t_mays h_t_firstRow h_t_low h_t_high t_noOlder t_thanThis t_known t_knownAge t_moved h_t_lowOne h_t_highOne h_t_ways t_met h_t_left t_hours t_greatest h_t_text t_typed t_at t_start t_token t_value h_t_verbs h_t_nums t_items)), (h_t_book, .inl (cI, 460, .inl t_book))] H → va_D A [(h_t, .inr (8, fX10 h_t_book h_t_images h_t_kept h_t_aside h_t_far h_t_then h_t_row h_t_mays h_t_firstRow h_t_low h_t_high t_noOlder t_thanThis t_known t_knownAge t_moved h_t_lowOne h_t_highOne h_t_ways t_met h_t_left t_hours t_greatest h_t_text t_typed t_at t_start t_token t_value h_t_verbs h_t_nums t_items)), (h_t_book, .inl (cI, 460, .inl t_book))] → va_S A s.heap H locs → ∀ ls : Array Slot, lv_has ls 3 [(1, .int x11)] → W p l e rmX10_places s m args below meth c H locs 0 0 Q (F0 m 43 ls [])) → ∀ (H : Heap) (locs : List Loc), va_P (dC, dI) vwCl [(h_t, .inr (8, fX10 h_t_book h_t_images h_t_kept h_t_aside h_t_far h_t_then h_t_row h_t_mays h_t_firstRow h_t_low h_t_high t_noOlder t_thanThis t_known t_knownAge t_moved h_t_lowOne h_t_highOne h_t_ways t_met h_t_left t_hours t_greatest h_t_text t_typed t_at t_start t_token t_value h_t_verbs h_t_nums t_items)), (h_t_book, .inl (cI, 460, .inl t_book))] H → va_D A [(h_t, .inr (8, fX10 h_t_book h_t_images h_t_kept h_t_aside h_t_far h_t_then h_t_row h_t_mays h_t_firstRow h_t_low h_t_high t_noOlder t_thanThis t_known t_knownAge t_moved h_t_lowOne h_t_highOne h_t_ways t_met h_t_left t_hours t_greatest h_t_text t_typed t_at t_start t_token t_value h_t_verbs h_t_nums t_items)), (h_t_book, .inl (cI, 460, .inl t_book))] → va_S A s.heap H locs → ∀ ls : Array Slot, lv_has ls 3 [(0, .ref h_t), (1, .int x12), (2, .int x13)] → W p l e rmX10_places s m args below meth c H locs 0 0 Q (F0 m 4 ls []) := by
    intro fu15
    induction fu15 with
    | zero =>
      intro x12 x13 x11 hf
      unfold f_X10_places_L1 at hf
      exact none_ne hf
    | succ fu15 ih14 =>
      intro x12 x13 x11 hf hX16 H locs hP hD hS ls hl
      unfold f_X10_places_L1 at hf
      refine lv_iload_n hx hb dX10_places_4 rfl (lv_at hl 2 rfl) ?_
      refine lv_aload_n hx hb dX10_places_5 rfl (lv_at hl 0 rfl) ?_
      refine va_get (D := (dC, dI)) (ci := 8) (v := .ref h_t_book) (C := RX10) (T := TX10) (N := 32) hx hb hts (in1 tw_X10) hown hK hP 0 rfl rfl 0 (by decide) (hts _ (List.mem_cons_of_mem _ kw_116)) (fun _ h9 => h9) rfl dX10_places_6 ?_
      refine lv_iconst (v := (5 : Int32)) hx hb dX10_places_9 (by decide) ?_
      obtain ⟨g17, hf⟩ := chk_some hf
      refine va_iald hx hb hK hP 1 0 rfl rfl (gin_in g17) dX10_places_10 ?_
      refine lv_icmp_ge (tgt := 43) hx hb dX10_places_11 (by decide) (fun c18 => ?_) (fun c18 => ?_)
      · replace hf := ifp c18 hf
        obtain rfl := inj1 hf
        exact hX16 _ _ hP hD hS _ (lv_sub hl [1] rfl)
      · replace hf := ifn c18 hf
        refine lv_iload_n hx hb dX10_places_14 rfl (lv_at hl 1 rfl) ?_
        refine lv_aload_n hx hb dX10_places_15 rfl (lv_at hl 0 rfl) ?_
        refine va_get (D := (dC, dI)) (ci := 8) (v := .ref h_t_book) (C := RX10) (T := TX10) (N := 32) hx hb hts (in1 tw_X10) hown hK hP 0 rfl rfl 0 (by decide) (hts _ (List.mem_cons_of_mem _ kw_116)) (fun _ h9 => h9) rfl dX10_places_16 ?_
        refine lv_sipush (v := (370 : Int32)) hx hb dX10_places_19 (by decide) ?_
        refine lv_iconst (v := (4 : Int32)) hx hb dX10_places_22 (by decide) ?_
        refine lv_iload_n hx hb dX10_places_23 rfl (lv_at hl 2 rfl) ?_
        refine lv_imul hx hb dX10_places_24 ?_
        refine lv_iadd hx hb dX10_places_25 ?_
        obtain ⟨g19, hf⟩ := chk_some hf
        refine va_iald hx hb hK hP 1 0 rfl rfl (gin_in g19) dX10_places_26 ?_
        refine lv_if_ne (tgt := 34) hx hb dX10_places_27 (by decide) (fun c20 => ?_) (fun c20 => ?_)
        · replace hf := ifn c20 hf
          refine lv_iconst (v := (0 : Int32)) hx hb dX10_places_34 (by decide) ?_
          refine lv_iadd hx hb dX10_places_35 ?_
          obtain ⟨x21, e22, hf⟩ := nm_some hf
          refine lv_tope e22 ?_
          refine lv_istore_n (lv' := [(1, .int x21), (0, .ref h_t), (2, .int x13)]) hx hb dX10_places_36 rfl hl (by decide) rfl (fun ls hl => ?_)
          refine lv_iinc (v := (x13 + (1 : Int32))) (lv' := [(2, .int (x13 + (1 : Int32))), (1, .int x21), (0, .ref h_t)]) hx hb dX10_places_37 hl (k := 2) rfl rfl (by decide) rfl (fun ls hl => ?_)
          refine lv_goto (tgt := 4) hx hb dX10_places_40 (by decide) ?_
          exact ih14 _ _ _ hf hX16 _ _ hP hD hS _ (lv_sub hl [2, 1, 0] rfl)
        · replace hf := ifp c20 hf
          refine lv_iconst (v := (1 : Int32)) hx hb dX10_places_30 (by decide) ?_
          refine lv_goto (tgt := 35) hx hb dX10_places_31 (by decide) ?_
          refine lv_iadd hx hb dX10_places_35 ?_
          obtain ⟨x23, e24, hf⟩ := nm_some hf
          refine lv_tope e24 ?_
          refine lv_istore_n (lv' := [(1, .int x23), (0, .ref h_t), (2, .int x13)]) hx hb dX10_places_36 rfl hl (by decide) rfl (fun ls hl => ?_)
          refine lv_iinc (v := (x13 + (1 : Int32))) (lv' := [(2, .int (x13 + (1 : Int32))), (1, .int x23), (0, .ref h_t)]) hx hb dX10_places_37 hl (k := 2) rfl rfl (by decide) rfl (fun ls hl => ?_)
          refine lv_goto (tgt := 4) hx hb dX10_places_40 (by decide) ?_
          exact ih14 _ _ _ hf hX16 _ _ hP hD hS _ (lv_sub hl [2, 1, 0] rfl)
  obtain ⟨x11, hg, hf⟩ := bd1_some hf
  refine L25 FU _ _ _ hg ?_ _ _ hP hD hS _ (lv_sub hl [2, 1, 0] rfl)
  · intro H locs hP hD hS ls hl
    refine lv_iload_n hx hb dX10_places_43 rfl (lv_at hl 0 rfl) ?_
    obtain rfl := inj1 hf
    subst hQ
    exact CM_iret hx hb hr rfl hlocks hAe hP hD hS dX10_places_44
def rmX10_sign : Room := { frames := 1, cells := 0, slots := 0, locals := 25 }
abbrev wqX10_sign : List Cond := Cond.code yX10_sign cX10_sign 6 (some .int) :: tG
set_option maxHeartbeats 4000000 in
set_option maxRecDepth 100000 in
theorem c_X10_sign (l : Launch) (dC : Nat → ClassId) (dI : Nat → Nat → Nat) (cI cZ : ClassId) (te : Nat → Nat) (h_t : Nat) (h_t_book : Nat) (h_t_images : Nat) (h_t_kept : Nat) (h_t_aside : Nat) (h_t_far : Nat) (h_t_then : Nat) (h_t_row : Nat) (h_t_mays : Nat) (h_t_firstRow : Nat) (h_t_low : Nat) (h_t_high : Nat) (h_t_lowOne : Nat) (h_t_highOne : Nat) (h_t_ways : Nat) (h_t_left : Nat) (h_t_text : Nat) (h_t_verbs : Nat) (h_t_nums : Nat) (t_noOlder : Int32) (t_thanThis : Int32) (t_known : Int32) (t_knownAge : Int32) (t_moved : Int32) (t_met : Int32) (t_hours : Int32) (t_greatest : Int32) (t_typed : Int32) (t_at : Int32) (t_start : Int32) (t_token : Int32) (t_value : Int32) (t_items : Int32) (t_book : Nat → Int32) (p1 : Int32) (p2 : Int32) (p3 : Int32) (p4 : Int32) (o0 : Int32) (o1 : Nat → Int32) (hf : f_X10_sign t_book p1 p2 p3 p4 = some (o0, o1)) : CM l yX10_sign wqX10_sign rmX10_sign (kS te) dC dI cI cZ [.ref h_t, .int p1, .int p2, .int p3, .int p4] [(h_t, .inr (8, fX10 h_t_book h_t_images h_t_kept h_t_aside h_t_far h_t_then h_t_row h_t_mays h_t_firstRow h_t_low h_t_high t_noOlder t_thanThis t_known t_knownAge t_moved h_t_lowOne h_t_highOne h_t_ways t_met h_t_left t_hours t_greatest h_t_text t_typed t_at t_start t_token t_value h_t_verbs h_t_nums t_items)), (h_t_book, .inl (cI, 460, .inl t_book))] [(h_t, .inr (8, fX10 h_t_book h_t_images h_t_kept h_t_aside h_t_far h_t_then h_t_row h_t_mays h_t_firstRow h_t_low h_t_high t_noOlder t_thanThis t_known t_knownAge t_moved h_t_lowOne h_t_highOne h_t_ways t_met h_t_left t_hours t_greatest h_t_text t_typed t_at t_start t_token t_value h_t_verbs h_t_nums t_items)), (h_t_book, .inl (cI, 460, .inl o1))] (some (.int o0)) := by
  refine CM_of (cc := cX10_sign) (maxL := 6) (ret := (some .int)) (by decide +kernel) rfl (Nat.le_of_ble_eq_true rfl) ?_
  intro p e s m args below meth c A Q hx hb hr hml hown hts hlocks hA hK hP hD hS hE hQ hAe ls hl
  have hown : s.vm.findClass RX10 = some m.cls := hown
  have hl : lv_has ls 6 [(0, .ref h_t), (1, .int p1), (2, .int p2), (3, .int p3), (4, .int p4)] := hl
  unfold f_X10_sign at hf
  refine lv_iload_n hx hb dX10_sign_0 rfl (lv_at hl 1 rfl) ?_
  refine lv_i2l hx hb dX10_sign_1 rfl ?_
  refine lv_lconst (v := (0 : Int64)) hx hb dX10_sign_2 (by decide) ?_
  refine lv_ldc2 (v := (2 : Int64)) hx hb hown (hts _ (List.mem_cons_of_mem _ kw_156)) dX10_sign_3 ?_
  obtain ⟨r1, hg2, hf⟩ := bd1_some hf
  refine CM_callS (As := [.long p1.toInt64, .long (0 : Int64), .long (2 : Int64)]) (rest := []) (wc := []) (w1 := []) (wr := [(h_t, .inr (8, fX10 h_t_book h_t_images h_t_kept h_t_aside h_t_far h_t_then h_t_row h_t_mays h_t_firstRow h_t_low h_t_high t_noOlder t_thanThis t_known t_knownAge t_moved h_t_lowOne h_t_highOne h_t_ways t_met h_t_left t_hours t_greatest h_t_text t_typed t_at t_start t_token t_value h_t_verbs h_t_nums t_items)), (h_t_book, .inl (cI, 460, .inl t_book))]) (wo := [(h_t, .inr (8, fX10 h_t_book h_t_images h_t_kept h_t_aside h_t_far h_t_then h_t_row h_t_mays h_t_firstRow h_t_low h_t_high t_noOlder t_thanThis t_known t_knownAge t_moved h_t_lowOne h_t_highOne h_t_ways t_met h_t_left t_hours t_greatest h_t_text t_typed t_at t_start t_token t_value h_t_verbs h_t_nums t_items)), (h_t_book, .inl (cI, 460, .inl t_book))]) (v := (some (.int r1))) ⟨hx, hb, hml, hown, hts⟩ (c_X10_in l dC dI cI cZ te (p1.toInt64) (0 : Int64) (2 : Int64) r1 hg2) (va_cwS 3 hts (gS kw_157 kw_158 kw_159 kw_160) rfl rfl rfl (by decide +kernel) ⟨Nat.le_of_ble_eq_true rfl, Nat.le_of_ble_eq_true rfl⟩) (kS_env te) hK hP hD hS hA hE [] [0, 1] [0, 1] rfl rfl (by decide) (by decide) (by decide) (by decide) rfl rfl hl.1 rfl (Nat.le_of_ble_eq_true rfl) dX10_sign_6 ⟨Nat.zero_le _, Nat.zero_le _⟩ (fun H locs hP hD hS => ?_)
  show W p l e rmX10_sign s m args below meth c H locs 0 0 Q (F0 m 9 ls [.int r1])
  refine lv_if_eq (tgt := 49) hx hb dX10_sign_9 (by decide) (fun c3 => ?_) (fun c3 => ?_)
  · replace hf := ifp c3 hf
    refine lv_bipush (v := (-2 : Int32)) hx hb dX10_sign_49 (by decide) ?_
    obtain ⟨rfl, rfl⟩ := inj2 hf
    subst hQ
    exact CM_iret hx hb hr rfl hlocks hAe hP hD hS dX10_sign_51
  · replace hf := ifn c3 hf
    refine lv_iload_n hx hb dX10_sign_12 rfl (lv_at hl 2 rfl) ?_
    refine lv_i2l hx hb dX10_sign_13 rfl ?_
    refine lv_lconst (v := (0 : Int64)) hx hb dX10_sign_14 (by decide) ?_
    refine lv_ldc2 (v := (20 : Int64)) hx hb hown (hts _ (List.mem_cons_of_mem _ kw_216)) dX10_sign_15 ?_
    obtain ⟨r4, hg5, hf⟩ := bd1_some hf
    refine CM_callS (As := [.long p2.toInt64, .long (0 : Int64), .long (20 : Int64)]) (rest := []) (wc := []) (w1 := []) (wr := [(h_t, .inr (8, fX10 h_t_book h_t_images h_t_kept h_t_aside h_t_far h_t_then h_t_row h_t_mays h_t_firstRow h_t_low h_t_high t_noOlder t_thanThis t_known t_knownAge t_moved h_t_lowOne h_t_highOne h_t_ways t_met h_t_left t_hours t_greatest h_t_text t_typed t_at t_start t_token t_value h_t_verbs h_t_nums t_items)), (h_t_book, .inl (cI, 460, .inl t_book))]) (wo := [(h_t, .inr (8, fX10 h_t_book h_t_images h_t_kept h_t_aside h_t_far h_t_then h_t_row h_t_mays h_t_firstRow h_t_low h_t_high t_noOlder t_thanThis t_known t_knownAge t_moved h_t_lowOne h_t_highOne h_t_ways t_met h_t_left t_hours t_greatest h_t_text t_typed t_at t_start t_token t_value h_t_verbs h_t_nums t_items)), (h_t_book, .inl (cI, 460, .inl t_book))]) (v := (some (.int r4))) ⟨hx, hb, hml, hown, hts⟩ (c_X10_in l dC dI cI cZ te (p2.toInt64) (0 : Int64) (20 : Int64) r4 hg5) (va_cwS 3 hts (gS kw_157 kw_158 kw_159 kw_160) rfl rfl rfl (by decide +kernel) ⟨Nat.le_of_ble_eq_true rfl, Nat.le_of_ble_eq_true rfl⟩) (kS_env te) hK hP hD hS hA hE [] [0, 1] [0, 1] rfl rfl (by decide) (by decide) (by decide) (by decide) rfl rfl hl.1 rfl (Nat.le_of_ble_eq_true rfl) dX10_sign_18 ⟨Nat.zero_le _, Nat.zero_le _⟩ (fun H locs hP hD hS => ?_)
    show W p l e rmX10_sign s m args below meth c H locs 0 0 Q (F0 m 21 ls [.int r4])
    refine lv_if_eq (tgt := 49) hx hb dX10_sign_21 (by decide) (fun c6 => ?_) (fun c6 => ?_)
    · replace hf := ifp c6 hf
      refine lv_bipush (v := (-2 : Int32)) hx hb dX10_sign_49 (by decide) ?_
      obtain ⟨rfl, rfl⟩ := inj2 hf
      subst hQ
      exact CM_iret hx hb hr rfl hlocks hAe hP hD hS dX10_sign_51
    · replace hf := ifn c6 hf
      refine lv_iload hx hb dX10_sign_24 (lv_at hl 4 rfl) ?_
      refine lv_i2l hx hb dX10_sign_26 rfl ?_
      refine lv_lconst (v := (0 : Int64)) hx hb dX10_sign_27 (by decide) ?_
      refine lv_ldc2 (v := (39 : Int64)) hx hb hown (hts _ (List.mem_cons_of_mem _ kw_278)) dX10_sign_28 ?_
      obtain ⟨r7, hg8, hf⟩ := bd1_some hf
      refine CM_callS (As := [.long p4.toInt64, .long (0 : Int64), .long (39 : Int64)]) (rest := []) (wc := []) (w1 := []) (wr := [(h_t, .inr (8, fX10 h_t_book h_t_images h_t_kept h_t_aside h_t_far h_t_then h_t_row h_t_mays h_t_firstRow h_t_low h_t_high t_noOlder t_thanThis t_known t_knownAge t_moved h_t_lowOne h_t_highOne h_t_ways t_met h_t_left t_hours t_greatest h_t_text t_typed t_at t_start t_token t_value h_t_verbs h_t_nums t_items)), (h_t_book, .inl (cI, 460, .inl t_book))]) (wo := [(h_t, .inr (8, fX10 h_t_book h_t_images h_t_kept h_t_aside h_t_far h_t_then h_t_row h_t_mays h_t_firstRow h_t_low h_t_high t_noOlder t_thanThis t_known t_knownAge t_moved h_t_lowOne h_t_highOne h_t_ways t_met h_t_left t_hours t_greatest h_t_text t_typed t_at t_start t_token t_value h_t_verbs h_t_nums t_items)), (h_t_book, .inl (cI, 460, .inl t_book))]) (v := (some (.int r7))) ⟨hx, hb, hml, hown, hts⟩ (c_X10_in l dC dI cI cZ te (p4.toInt64) (0 : Int64) (39 : Int64) r7 hg8) (va_cwS 3 hts (gS kw_157 kw_158 kw_159 kw_160) rfl rfl rfl (by decide +kernel) ⟨Nat.le_of_ble_eq_true rfl, Nat.le_of_ble_eq_true rfl⟩) (kS_env te) hK hP hD hS hA hE [] [0, 1] [0, 1] rfl rfl (by decide) (by decide) (by decide) (by decide) rfl rfl hl.1 rfl (Nat.le_of_ble_eq_true rfl) dX10_sign_31 ⟨Nat.zero_le _, Nat.zero_le _⟩ (fun H locs hP hD hS => ?_)
      show W p l e rmX10_sign s m args below meth c H locs 0 0 Q (F0 m 34 ls [.int r7])
      refine lv_if_eq (tgt := 49) hx hb dX10_sign_34 (by decide) (fun c9 => ?_) (fun c9 => ?_)
      · replace hf := ifp c9 hf
        refine lv_bipush (v := (-2 : Int32)) hx hb dX10_sign_49 (by decide) ?_
        obtain ⟨rfl, rfl⟩ := inj2 hf
        subst hQ
        exact CM_iret hx hb hr rfl hlocks hAe hP hD hS dX10_sign_51
      · replace hf := ifn c9 hf
        refine lv_iload_n hx hb dX10_sign_37 rfl (lv_at hl 3 rfl) ?_
        refine lv_i2l hx hb dX10_sign_38 rfl ?_
        refine lv_lconst (v := (0 : Int64)) hx hb dX10_sign_39 (by decide) ?_
        refine lv_iload hx hb dX10_sign_40 (lv_at hl 4 rfl) ?_
        refine lv_i2l hx hb dX10_sign_42 rfl ?_
        obtain ⟨r10, hg11, hf⟩ := bd1_some hf
        refine CM_callS (As := [.long p3.toInt64, .long (0 : Int64), .long p4.toInt64]) (rest := []) (wc := []) (w1 := []) (wr := [(h_t, .inr (8, fX10 h_t_book h_t_images h_t_kept h_t_aside h_t_far h_t_then h_t_row h_t_mays h_t_firstRow h_t_low h_t_high t_noOlder t_thanThis t_known t_knownAge t_moved h_t_lowOne h_t_highOne h_t_ways t_met h_t_left t_hours t_greatest h_t_text t_typed t_at t_start t_token t_value h_t_verbs h_t_nums t_items)), (h_t_book, .inl (cI, 460, .inl t_book))]) (wo := [(h_t, .inr (8, fX10 h_t_book h_t_images h_t_kept h_t_aside h_t_far h_t_then h_t_row h_t_mays h_t_firstRow h_t_low h_t_high t_noOlder t_thanThis t_known t_knownAge t_moved h_t_lowOne h_t_highOne h_t_ways t_met h_t_left t_hours t_greatest h_t_text t_typed t_at t_start t_token t_value h_t_verbs h_t_nums t_items)), (h_t_book, .inl (cI, 460, .inl t_book))]) (v := (some (.int r10))) ⟨hx, hb, hml, hown, hts⟩ (c_X10_in l dC dI cI cZ te (p3.toInt64) (0 : Int64) (p4.toInt64) r10 hg11) (va_cwS 3 hts (gS kw_157 kw_158 kw_159 kw_160) rfl rfl rfl (by decide +kernel) ⟨Nat.le_of_ble_eq_true rfl, Nat.le_of_ble_eq_true rfl⟩) (kS_env te) hK hP hD hS hA hE [] [0, 1] [0, 1] rfl rfl (by decide) (by decide) (by decide) (by decide) rfl rfl hl.1 rfl (Nat.le_of_ble_eq_true rfl) dX10_sign_43 ⟨Nat.zero_le _, Nat.zero_le _⟩ (fun H locs hP hD hS => ?_)
        show W p l e rmX10_sign s m args below meth c H locs 0 0 Q (F0 m 46 ls [.int r10])
        refine lv_if_ne (tgt := 52) hx hb dX10_sign_46 (by decide) (fun c12 => ?_) (fun c12 => ?_)
        · replace hf := ifn c12 hf
          refine lv_aload_n hx hb dX10_sign_52 rfl (lv_at hl 0 rfl) ?_
          refine va_get (D := (dC, dI)) (ci := 8) (v := .ref h_t_book) (C := RX10) (T := TX10) (N := 32) hx hb hts (in1 tw_X10) hown hK hP 0 rfl rfl 0 (by decide) (hts _ (List.mem_cons_of_mem _ kw_116)) (fun _ h9 => h9) rfl dX10_sign_53 ?_
          refine lv_iconst (v := (5 : Int32)) hx hb dX10_sign_56 (by decide) ?_
          obtain ⟨g13, hf⟩ := chk_some hf
          refine va_iald hx hb hK hP 1 0 rfl rfl (gin_in g13) dX10_sign_57 ?_
          refine lv_bipush (v := (10 : Int32)) hx hb dX10_sign_58 (by decide) ?_
          refine lv_icmp_eq (tgt := 75) hx hb dX10_sign_60 (by decide) (fun c14 => ?_) (fun c14 => ?_)
          · replace hf := ifp c14 hf
            refine lv_bipush (v := (-4 : Int32)) hx hb dX10_sign_75 (by decide) ?_
            obtain ⟨rfl, rfl⟩ := inj2 hf
            subst hQ
            exact CM_iret hx hb hr rfl hlocks hAe hP hD hS dX10_sign_77
          · replace hf := ifn c14 hf
            refine lv_iload_n hx hb dX10_sign_63 rfl (lv_at hl 1 rfl) ?_
            refine lv_if_ne (tgt := 78) hx hb dX10_sign_64 (by decide) (fun c15 => ?_) (fun c15 => ?_)
            · replace hf := ifn c15 hf
              refine lv_sipush (v := (370 : Int32)) hx hb dX10_sign_78 (by decide) ?_
              refine lv_iconst (v := (4 : Int32)) hx hb dX10_sign_81 (by decide) ?_
              refine lv_aload_n hx hb dX10_sign_82 rfl (lv_at hl 0 rfl) ?_
              refine va_get (D := (dC, dI)) (ci := 8) (v := .ref h_t_book) (C := RX10) (T := TX10) (N := 32) hx hb hts (in1 tw_X10) hown hK hP 0 rfl rfl 0 (by decide) (hts _ (List.mem_cons_of_mem _ kw_116)) (fun _ h9 => h9) rfl dX10_sign_83 ?_
              refine lv_iconst (v := (5 : Int32)) hx hb dX10_sign_86 (by decide) ?_
              obtain ⟨g16, hf⟩ := chk_some hf
              refine va_iald hx hb hK hP 1 0 rfl rfl (gin_in g16) dX10_sign_87 ?_
              refine lv_imul hx hb dX10_sign_88 ?_
              refine lv_iadd hx hb dX10_sign_89 ?_
              obtain ⟨x17, e18, hf⟩ := nm_some hf
              refine lv_tope e18 ?_
              refine lv_istore (lv' := [(5, .int x17), (0, .ref h_t), (1, .int p1), (2, .int p2), (3, .int p3), (4, .int p4)]) hx hb dX10_sign_90 hl (by decide) rfl (fun ls hl => ?_)
              refine lv_aload_n hx hb dX10_sign_92 rfl (lv_at hl 1 rfl) ?_
              refine va_get (D := (dC, dI)) (ci := 8) (v := .ref h_t_book) (C := RX10) (T := TX10) (N := 32) hx hb hts (in1 tw_X10) hown hK hP 0 rfl rfl 0 (by decide) (hts _ (List.mem_cons_of_mem _ kw_116)) (fun _ h9 => h9) rfl dX10_sign_93 ?_
              refine lv_iload hx hb dX10_sign_96 (lv_at hl 0 rfl) ?_
              refine lv_iload_n hx hb dX10_sign_98 rfl (lv_at hl 2 rfl) ?_
              obtain ⟨g19, hf⟩ := chk_some hf
              obtain ⟨y20, e21, hf⟩ := nm_some hf
              refine va_iast hx hb hK hP hD hS 1 0 rfl rfl (gin_in g19) dX10_sign_99 (fun H locs hP hD hS => ?_)
              have hP : va_P (dC, dI) vwCl [(h_t, .inr (8, fX10 h_t_book h_t_images h_t_kept h_t_aside h_t_far h_t_then h_t_row h_t_mays h_t_firstRow h_t_low h_t_high t_noOlder t_thanThis t_known t_knownAge t_moved h_t_lowOne h_t_highOne h_t_ways t_met h_t_left t_hours t_greatest h_t_text t_typed t_at t_start t_token t_value h_t_verbs h_t_nums t_items)), (h_t_book, .inl (cI, 460, .inl y20))] H := by rw [e21]; exact hP
              have hD : va_D A [(h_t, .inr (8, fX10 h_t_book h_t_images h_t_kept h_t_aside h_t_far h_t_then h_t_row h_t_mays h_t_firstRow h_t_low h_t_high t_noOlder t_thanThis t_known t_knownAge t_moved h_t_lowOne h_t_highOne h_t_ways t_met h_t_left t_hours t_greatest h_t_text t_typed t_at t_start t_token t_value h_t_verbs h_t_nums t_items)), (h_t_book, .inl (cI, 460, .inl y20))] := by rw [e21]; exact hD
              refine lv_aload_n hx hb dX10_sign_100 rfl (lv_at hl 1 rfl) ?_
              refine va_get (D := (dC, dI)) (ci := 8) (v := .ref h_t_book) (C := RX10) (T := TX10) (N := 32) hx hb hts (in1 tw_X10) hown hK hP 0 rfl rfl 0 (by decide) (hts _ (List.mem_cons_of_mem _ kw_116)) (fun _ h9 => h9) rfl dX10_sign_101 ?_
              refine lv_iload hx hb dX10_sign_104 (lv_at hl 0 rfl) ?_
              refine lv_iconst (v := (1 : Int32)) hx hb dX10_sign_106 (by decide) ?_
              refine lv_iadd hx hb dX10_sign_107 ?_
              refine lv_iload_n hx hb dX10_sign_108 rfl (lv_at hl 3 rfl) ?_
              obtain ⟨g22, hf⟩ := chk_some hf
              obtain ⟨y23, e24, hf⟩ := nm_some hf
              refine va_iast hx hb hK hP hD hS 1 0 rfl rfl (gin_in g22) dX10_sign_109 (fun H locs hP hD hS => ?_)
              have hP : va_P (dC, dI) vwCl [(h_t, .inr (8, fX10 h_t_book h_t_images h_t_kept h_t_aside h_t_far h_t_then h_t_row h_t_mays h_t_firstRow h_t_low h_t_high t_noOlder t_thanThis t_known t_knownAge t_moved h_t_lowOne h_t_highOne h_t_ways t_met h_t_left t_hours t_greatest h_t_text t_typed t_at t_start t_token t_value h_t_verbs h_t_nums t_items)), (h_t_book, .inl (cI, 460, .inl y23))] H := by rw [e24]; exact hP
              have hD : va_D A [(h_t, .inr (8, fX10 h_t_book h_t_images h_t_kept h_t_aside h_t_far h_t_then h_t_row h_t_mays h_t_firstRow h_t_low h_t_high t_noOlder t_thanThis t_known t_knownAge t_moved h_t_lowOne h_t_highOne h_t_ways t_met h_t_left t_hours t_greatest h_t_text t_typed t_at t_start t_token t_value h_t_verbs h_t_nums t_items)), (h_t_book, .inl (cI, 460, .inl y23))] := by rw [e24]; exact hD
              refine lv_aload_n hx hb dX10_sign_110 rfl (lv_at hl 1 rfl) ?_
              refine va_get (D := (dC, dI)) (ci := 8) (v := .ref h_t_book) (C := RX10) (T := TX10) (N := 32) hx hb hts (in1 tw_X10) hown hK hP 0 rfl rfl 0 (by decide) (hts _ (List.mem_cons_of_mem _ kw_116)) (fun _ h9 => h9) rfl dX10_sign_111 ?_
              refine lv_iload hx hb dX10_sign_114 (lv_at hl 0 rfl) ?_
              refine lv_iconst (v := (2 : Int32)) hx hb dX10_sign_116 (by decide) ?_
              refine lv_iadd hx hb dX10_sign_117 ?_
              refine lv_iload_n hx hb dX10_sign_118 rfl (lv_at hl 4 rfl) ?_
              obtain ⟨g25, hf⟩ := chk_some hf
              obtain ⟨y26, e27, hf⟩ := nm_some hf
              refine va_iast hx hb hK hP hD hS 1 0 rfl rfl (gin_in g25) dX10_sign_119 (fun H locs hP hD hS => ?_)
              have hP : va_P (dC, dI) vwCl [(h_t, .inr (8, fX10 h_t_book h_t_images h_t_kept h_t_aside h_t_far h_t_then h_t_row h_t_mays h_t_firstRow h_t_low h_t_high t_noOlder t_thanThis t_known t_knownAge t_moved h_t_lowOne h_t_highOne h_t_ways t_met h_t_left t_hours t_greatest h_t_text t_typed t_at t_start t_token t_value h_t_verbs h_t_nums t_items)), (h_t_book, .inl (cI, 460, .inl y26))] H := by rw [e27]; exact hP
              have hD : va_D A [(h_t, .inr (8, fX10 h_t_book h_t_images h_t_kept h_t_aside h_t_far h_t_then h_t_row h_t_mays h_t_firstRow h_t_low h_t_high t_noOlder t_thanThis t_known t_knownAge t_moved h_t_lowOne h_t_highOne h_t_ways t_met h_t_left t_hours t_greatest h_t_text t_typed t_at t_start t_token t_value h_t_verbs h_t_nums t_items)), (h_t_book, .inl (cI, 460, .inl y26))] := by rw [e27]; exact hD
              refine lv_aload_n hx hb dX10_sign_120 rfl (lv_at hl 1 rfl) ?_
              refine va_get (D := (dC, dI)) (ci := 8) (v := .ref h_t_book) (C := RX10) (T := TX10) (N := 32) hx hb hts (in1 tw_X10) hown hK hP 0 rfl rfl 0 (by decide) (hts _ (List.mem_cons_of_mem _ kw_116)) (fun _ h9 => h9) rfl dX10_sign_121 ?_
              refine lv_iload hx hb dX10_sign_124 (lv_at hl 0 rfl) ?_
              refine lv_iconst (v := (3 : Int32)) hx hb dX10_sign_126 (by decide) ?_
              refine lv_iadd hx hb dX10_sign_127 ?_
              refine lv_iload hx hb dX10_sign_128 (lv_at hl 5 rfl) ?_
              obtain ⟨g28, hf⟩ := chk_some hf
              obtain ⟨y29, e30, hf⟩ := nm_some hf
              refine va_iast hx hb hK hP hD hS 1 0 rfl rfl (gin_in g28) dX10_sign_130 (fun H locs hP hD hS => ?_)
              have hP : va_P (dC, dI) vwCl [(h_t, .inr (8, fX10 h_t_book h_t_images h_t_kept h_t_aside h_t_far h_t_then h_t_row h_t_mays h_t_firstRow h_t_low h_t_high t_noOlder t_thanThis t_known t_knownAge t_moved h_t_lowOne h_t_highOne h_t_ways t_met h_t_left t_hours t_greatest h_t_text t_typed t_at t_start t_token t_value h_t_verbs h_t_nums t_items)), (h_t_book, .inl (cI, 460, .inl y29))] H := by rw [e30]; exact hP
              have hD : va_D A [(h_t, .inr (8, fX10 h_t_book h_t_images h_t_kept h_t_aside h_t_far h_t_then h_t_row h_t_mays h_t_firstRow h_t_low h_t_high t_noOlder t_thanThis t_known t_knownAge t_moved h_t_lowOne h_t_highOne h_t_ways t_met h_t_left t_hours t_greatest h_t_text t_typed t_at t_start t_token t_value h_t_verbs h_t_nums t_items)), (h_t_book, .inl (cI, 460, .inl y29))] := by rw [e30]; exact hD
              refine lv_aload_n hx hb dX10_sign_131 rfl (lv_at hl 1 rfl) ?_
              refine va_get (D := (dC, dI)) (ci := 8) (v := .ref h_t_book) (C := RX10) (T := TX10) (N := 32) hx hb hts (in1 tw_X10) hown hK hP 0 rfl rfl 0 (by decide) (hts _ (List.mem_cons_of_mem _ kw_116)) (fun _ h9 => h9) rfl dX10_sign_132 ?_
              refine lv_iconst (v := (5 : Int32)) hx hb dX10_sign_135 (by decide) ?_
              refine lv_dup2_11 hx hb dX10_sign_136 rfl rfl ?_
              obtain ⟨g31, hf⟩ := chk_some hf
              refine va_iald hx hb hK hP 1 0 rfl rfl (gin_in g31) dX10_sign_137 ?_
              refine lv_iconst (v := (1 : Int32)) hx hb dX10_sign_138 (by decide) ?_
              refine lv_iadd hx hb dX10_sign_139 ?_
              obtain ⟨x32, e33, hf⟩ := nm_some hf
              refine lv_tope e33 ?_
              obtain ⟨g34, hf⟩ := chk_some hf
              obtain ⟨y35, e36, hf⟩ := nm_some hf
              refine va_iast hx hb hK hP hD hS 1 0 rfl rfl (gin_in g34) dX10_sign_140 (fun H locs hP hD hS => ?_)
              have hP : va_P (dC, dI) vwCl [(h_t, .inr (8, fX10 h_t_book h_t_images h_t_kept h_t_aside h_t_far h_t_then h_t_row h_t_mays h_t_firstRow h_t_low h_t_high t_noOlder t_thanThis t_known t_knownAge t_moved h_t_lowOne h_t_highOne h_t_ways t_met h_t_left t_hours t_greatest h_t_text t_typed t_at t_start t_token t_value h_t_verbs h_t_nums t_items)), (h_t_book, .inl (cI, 460, .inl y35))] H := by rw [e36]; exact hP
              have hD : va_D A [(h_t, .inr (8, fX10 h_t_book h_t_images h_t_kept h_t_aside h_t_far h_t_then h_t_row h_t_mays h_t_firstRow h_t_low h_t_high t_noOlder t_thanThis t_known t_knownAge t_moved h_t_lowOne h_t_highOne h_t_ways t_met h_t_left t_hours t_greatest h_t_text t_typed t_at t_start t_token t_value h_t_verbs h_t_nums t_items)), (h_t_book, .inl (cI, 460, .inl y35))] := by rw [e36]; exact hD
              refine lv_aload_n hx hb dX10_sign_141 rfl (lv_at hl 1 rfl) ?_
              refine va_get (D := (dC, dI)) (ci := 8) (v := .ref h_t_book) (C := RX10) (T := TX10) (N := 32) hx hb hts (in1 tw_X10) hown hK hP 0 rfl rfl 0 (by decide) (hts _ (List.mem_cons_of_mem _ kw_116)) (fun _ h9 => h9) rfl dX10_sign_142 ?_
              refine lv_iconst (v := (5 : Int32)) hx hb dX10_sign_145 (by decide) ?_
              obtain ⟨g37, hf⟩ := chk_some hf
              refine va_iald hx hb hK hP 1 0 rfl rfl (gin_in g37) dX10_sign_146 ?_
              refine lv_iconst (v := (1 : Int32)) hx hb dX10_sign_147 (by decide) ?_
              refine lv_isub hx hb dX10_sign_148 ?_
              obtain ⟨rfl, rfl⟩ := inj2 hf
              subst hQ
              exact CM_iret hx hb hr rfl hlocks hAe hP hD hS dX10_sign_149
            · replace hf := ifp c15 hf
              refine lv_aload_n hx hb dX10_sign_67 rfl (lv_at hl 0 rfl) ?_
              obtain ⟨r38, hg39, hf⟩ := bd1_some hf
              refine CM_callV (C := RX10) (As := []) (rest := []) (wc := [(h_t, .inr (8, fX10 h_t_book h_t_images h_t_kept h_t_aside h_t_far h_t_then h_t_row h_t_mays h_t_firstRow h_t_low h_t_high t_noOlder t_thanThis t_known t_knownAge t_moved h_t_lowOne h_t_highOne h_t_ways t_met h_t_left t_hours t_greatest h_t_text t_typed t_at t_start t_token t_value h_t_verbs h_t_nums t_items)), (h_t_book, .inl (cI, 460, .inl t_book))]) (w1 := [(h_t, .inr (8, fX10 h_t_book h_t_images h_t_kept h_t_aside h_t_far h_t_then h_t_row h_t_mays h_t_firstRow h_t_low h_t_high t_noOlder t_thanThis t_known t_knownAge t_moved h_t_lowOne h_t_highOne h_t_ways t_met h_t_left t_hours t_greatest h_t_text t_typed t_at t_start t_token t_value h_t_verbs h_t_nums t_items)), (h_t_book, .inl (cI, 460, .inl t_book))]) (wr := []) (wo := [(h_t, .inr (8, fX10 h_t_book h_t_images h_t_kept h_t_aside h_t_far h_t_then h_t_row h_t_mays h_t_firstRow h_t_low h_t_high t_noOlder t_thanThis t_known t_knownAge t_moved h_t_lowOne h_t_highOne h_t_ways t_met h_t_left t_hours t_greatest h_t_text t_typed t_at t_start t_token t_value h_t_verbs h_t_nums t_items)), (h_t_book, .inl (cI, 460, .inl t_book))]) (v := (some (.int r38))) ⟨hx, hb, hml, hown, hts⟩ (c_X10_places l dC dI cI cZ te h_t h_t_book h_t_images h_t_kept h_t_aside h_t_far h_t_then h_t_row h_t_mays h_t_firstRow h_t_low h_t_high h_t_lowOne h_t_highOne h_t_ways h_t_left h_t_text h_t_verbs h_t_nums t_noOlder t_thanThis t_known t_knownAge t_moved t_met t_hours t_greatest t_typed t_at t_start t_token t_value t_items t_book r38 hg39) (cwV 0 hts (gV kw_279 kw_280 kw_281 kw_159 kw_282) rfl rfl rfl (by decide +kernel) ⟨Nat.le_of_ble_eq_true rfl, Nat.le_of_ble_eq_true rfl⟩) (kS_env te) hK hP hD hS hA hE [0, 1] [] [0, 1] rfl rfl (by decide) (by decide) (by decide) (by decide) rfl 0 8 rfl rfl rfl rfl hl.1 rfl (Nat.le_of_ble_eq_true rfl) dX10_sign_68 ⟨Nat.zero_le _, Nat.zero_le _⟩ (fun H locs hP hD hS => ?_)
              show W p l e rmX10_sign s m args below meth c H locs 0 0 Q (F0 m 71 ls [.int r38])
              refine lv_iconst (v := (5 : Int32)) hx hb dX10_sign_71 (by decide) ?_
              refine lv_icmp_ne (tgt := 78) hx hb dX10_sign_72 (by decide) (fun c40 => ?_) (fun c40 => ?_)
              · replace hf := ifn c40 hf
                refine lv_sipush (v := (370 : Int32)) hx hb dX10_sign_78 (by decide) ?_
                refine lv_iconst (v := (4 : Int32)) hx hb dX10_sign_81 (by decide) ?_
                refine lv_aload_n hx hb dX10_sign_82 rfl (lv_at hl 0 rfl) ?_
                refine va_get (D := (dC, dI)) (ci := 8) (v := .ref h_t_book) (C := RX10) (T := TX10) (N := 32) hx hb hts (in1 tw_X10) hown hK hP 0 rfl rfl 0 (by decide) (hts _ (List.mem_cons_of_mem _ kw_116)) (fun _ h9 => h9) rfl dX10_sign_83 ?_
                refine lv_iconst (v := (5 : Int32)) hx hb dX10_sign_86 (by decide) ?_
                obtain ⟨g41, hf⟩ := chk_some hf
                refine va_iald hx hb hK hP 1 0 rfl rfl (gin_in g41) dX10_sign_87 ?_
                refine lv_imul hx hb dX10_sign_88 ?_
                refine lv_iadd hx hb dX10_sign_89 ?_
                obtain ⟨x42, e43, hf⟩ := nm_some hf
                refine lv_tope e43 ?_
                refine lv_istore (lv' := [(5, .int x42), (0, .ref h_t), (1, .int p1), (2, .int p2), (3, .int p3), (4, .int p4)]) hx hb dX10_sign_90 hl (by decide) rfl (fun ls hl => ?_)
                refine lv_aload_n hx hb dX10_sign_92 rfl (lv_at hl 1 rfl) ?_
                refine va_get (D := (dC, dI)) (ci := 8) (v := .ref h_t_book) (C := RX10) (T := TX10) (N := 32) hx hb hts (in1 tw_X10) hown hK hP 0 rfl rfl 0 (by decide) (hts _ (List.mem_cons_of_mem _ kw_116)) (fun _ h9 => h9) rfl dX10_sign_93 ?_
                refine lv_iload hx hb dX10_sign_96 (lv_at hl 0 rfl) ?_
                refine lv_iload_n hx hb dX10_sign_98 rfl (lv_at hl 2 rfl) ?_
                obtain ⟨g44, hf⟩ := chk_some hf
                obtain ⟨y45, e46, hf⟩ := nm_some hf
                refine va_iast hx hb hK hP hD hS 1 0 rfl rfl (gin_in g44) dX10_sign_99 (fun H locs hP hD hS => ?_)
                have hP : va_P (dC, dI) vwCl [(h_t, .inr (8, fX10 h_t_book h_t_images h_t_kept h_t_aside h_t_far h_t_then h_t_row h_t_mays h_t_firstRow h_t_low h_t_high t_noOlder t_thanThis t_known t_knownAge t_moved h_t_lowOne h_t_highOne h_t_ways t_met h_t_left t_hours t_greatest h_t_text t_typed t_at t_start t_token t_value h_t_verbs h_t_nums t_items)), (h_t_book, .inl (cI, 460, .inl y45))] H := by rw [e46]; exact hP
                have hD : va_D A [(h_t, .inr (8, fX10 h_t_book h_t_images h_t_kept h_t_aside h_t_far h_t_then h_t_row h_t_mays h_t_firstRow h_t_low h_t_high t_noOlder t_thanThis t_known t_knownAge t_moved h_t_lowOne h_t_highOne h_t_ways t_met h_t_left t_hours t_greatest h_t_text t_typed t_at t_start t_token t_value h_t_verbs h_t_nums t_items)), (h_t_book, .inl (cI, 460, .inl y45))] := by rw [e46]; exact hD
                refine lv_aload_n hx hb dX10_sign_100 rfl (lv_at hl 1 rfl) ?_
                refine va_get (D := (dC, dI)) (ci := 8) (v := .ref h_t_book) (C := RX10) (T := TX10) (N := 32) hx hb hts (in1 tw_X10) hown hK hP 0 rfl rfl 0 (by decide) (hts _ (List.mem_cons_of_mem _ kw_116)) (fun _ h9 => h9) rfl dX10_sign_101 ?_
                refine lv_iload hx hb dX10_sign_104 (lv_at hl 0 rfl) ?_
                refine lv_iconst (v := (1 : Int32)) hx hb dX10_sign_106 (by decide) ?_
                refine lv_iadd hx hb dX10_sign_107 ?_
                refine lv_iload_n hx hb dX10_sign_108 rfl (lv_at hl 3 rfl) ?_
                obtain ⟨g47, hf⟩ := chk_some hf
                obtain ⟨y48, e49, hf⟩ := nm_some hf
                refine va_iast hx hb hK hP hD hS 1 0 rfl rfl (gin_in g47) dX10_sign_109 (fun H locs hP hD hS => ?_)
                have hP : va_P (dC, dI) vwCl [(h_t, .inr (8, fX10 h_t_book h_t_images h_t_kept h_t_aside h_t_far h_t_then h_t_row h_t_mays h_t_firstRow h_t_low h_t_high t_noOlder t_thanThis t_known t_knownAge t_moved h_t_lowOne h_t_highOne h_t_ways t_met h_t_left t_hours t_greatest h_t_text t_typed t_at t_start t_token t_value h_t_verbs h_t_nums t_items)), (h_t_book, .inl (cI, 460, .inl y48))] H := by rw [e49]; exact hP
                have hD : va_D A [(h_t, .inr (8, fX10 h_t_book h_t_images h_t_kept h_t_aside h_t_far h_t_then h_t_row h_t_mays h_t_firstRow h_t_low h_t_high t_noOlder t_thanThis t_known t_knownAge t_moved h_t_lowOne h_t_highOne h_t_ways t_met h_t_left t_hours t_greatest h_t_text t_typed t_at t_start t_token t_value h_t_verbs h_t_nums t_items)), (h_t_book, .inl (cI, 460, .inl y48))] := by rw [e49]; exact hD
                refine lv_aload_n hx hb dX10_sign_110 rfl (lv_at hl 1 rfl) ?_
                refine va_get (D := (dC, dI)) (ci := 8) (v := .ref h_t_book) (C := RX10) (T := TX10) (N := 32) hx hb hts (in1 tw_X10) hown hK hP 0 rfl rfl 0 (by decide) (hts _ (List.mem_cons_of_mem _ kw_116)) (fun _ h9 => h9) rfl dX10_sign_111 ?_
                refine lv_iload hx hb dX10_sign_114 (lv_at hl 0 rfl) ?_
                refine lv_iconst (v := (2 : Int32)) hx hb dX10_sign_116 (by decide) ?_
                refine lv_iadd hx hb dX10_sign_117 ?_
                refine lv_iload_n hx hb dX10_sign_118 rfl (lv_at hl 4 rfl) ?_
                obtain ⟨g50, hf⟩ := chk_some hf
                obtain ⟨y51, e52, hf⟩ := nm_some hf
                refine va_iast hx hb hK hP hD hS 1 0 rfl rfl (gin_in g50) dX10_sign_119 (fun H locs hP hD hS => ?_)
                have hP : va_P (dC, dI) vwCl [(h_t, .inr (8, fX10 h_t_book h_t_images h_t_kept h_t_aside h_t_far h_t_then h_t_row h_t_mays h_t_firstRow h_t_low h_t_high t_noOlder t_thanThis t_known t_knownAge t_moved h_t_lowOne h_t_highOne h_t_ways t_met h_t_left t_hours t_greatest h_t_text t_typed t_at t_start t_token t_value h_t_verbs h_t_nums t_items)), (h_t_book, .inl (cI, 460, .inl y51))] H := by rw [e52]; exact hP
                have hD : va_D A [(h_t, .inr (8, fX10 h_t_book h_t_images h_t_kept h_t_aside h_t_far h_t_then h_t_row h_t_mays h_t_firstRow h_t_low h_t_high t_noOlder t_thanThis t_known t_knownAge t_moved h_t_lowOne h_t_highOne h_t_ways t_met h_t_left t_hours t_greatest h_t_text t_typed t_at t_start t_token t_value h_t_verbs h_t_nums t_items)), (h_t_book, .inl (cI, 460, .inl y51))] := by rw [e52]; exact hD
                refine lv_aload_n hx hb dX10_sign_120 rfl (lv_at hl 1 rfl) ?_
                refine va_get (D := (dC, dI)) (ci := 8) (v := .ref h_t_book) (C := RX10) (T := TX10) (N := 32) hx hb hts (in1 tw_X10) hown hK hP 0 rfl rfl 0 (by decide) (hts _ (List.mem_cons_of_mem _ kw_116)) (fun _ h9 => h9) rfl dX10_sign_121 ?_
                refine lv_iload hx hb dX10_sign_124 (lv_at hl 0 rfl) ?_
                refine lv_iconst (v := (3 : Int32)) hx hb dX10_sign_126 (by decide) ?_
                refine lv_iadd hx hb dX10_sign_127 ?_
                refine lv_iload hx hb dX10_sign_128 (lv_at hl 5 rfl) ?_
                obtain ⟨g53, hf⟩ := chk_some hf
                obtain ⟨y54, e55, hf⟩ := nm_some hf
                refine va_iast hx hb hK hP hD hS 1 0 rfl rfl (gin_in g53) dX10_sign_130 (fun H locs hP hD hS => ?_)
                have hP : va_P (dC, dI) vwCl [(h_t, .inr (8, fX10 h_t_book h_t_images h_t_kept h_t_aside h_t_far h_t_then h_t_row h_t_mays h_t_firstRow h_t_low h_t_high t_noOlder t_thanThis t_known t_knownAge t_moved h_t_lowOne h_t_highOne h_t_ways t_met h_t_left t_hours t_greatest h_t_text t_typed t_at t_start t_token t_value h_t_verbs h_t_nums t_items)), (h_t_book, .inl (cI, 460, .inl y54))] H := by rw [e55]; exact hP
                have hD : va_D A [(h_t, .inr (8, fX10 h_t_book h_t_images h_t_kept h_t_aside h_t_far h_t_then h_t_row h_t_mays h_t_firstRow h_t_low h_t_high t_noOlder t_thanThis t_known t_knownAge t_moved h_t_lowOne h_t_highOne h_t_ways t_met h_t_left t_hours t_greatest h_t_text t_typed t_at t_start t_token t_value h_t_verbs h_t_nums t_items)), (h_t_book, .inl (cI, 460, .inl y54))] := by rw [e55]; exact hD
                refine lv_aload_n hx hb dX10_sign_131 rfl (lv_at hl 1 rfl) ?_
                refine va_get (D := (dC, dI)) (ci := 8) (v := .ref h_t_book) (C := RX10) (T := TX10) (N := 32) hx hb hts (in1 tw_X10) hown hK hP 0 rfl rfl 0 (by decide) (hts _ (List.mem_cons_of_mem _ kw_116)) (fun _ h9 => h9) rfl dX10_sign_132 ?_
                refine lv_iconst (v := (5 : Int32)) hx hb dX10_sign_135 (by decide) ?_
                refine lv_dup2_11 hx hb dX10_sign_136 rfl rfl ?_
                obtain ⟨g56, hf⟩ := chk_some hf
                refine va_iald hx hb hK hP 1 0 rfl rfl (gin_in g56) dX10_sign_137 ?_
                refine lv_iconst (v := (1 : Int32)) hx hb dX10_sign_138 (by decide) ?_
                refine lv_iadd hx hb dX10_sign_139 ?_
                obtain ⟨x57, e58, hf⟩ := nm_some hf
                refine lv_tope e58 ?_
                obtain ⟨g59, hf⟩ := chk_some hf
                obtain ⟨y60, e61, hf⟩ := nm_some hf
                refine va_iast hx hb hK hP hD hS 1 0 rfl rfl (gin_in g59) dX10_sign_140 (fun H locs hP hD hS => ?_)
                have hP : va_P (dC, dI) vwCl [(h_t, .inr (8, fX10 h_t_book h_t_images h_t_kept h_t_aside h_t_far h_t_then h_t_row h_t_mays h_t_firstRow h_t_low h_t_high t_noOlder t_thanThis t_known t_knownAge t_moved h_t_lowOne h_t_highOne h_t_ways t_met h_t_left t_hours t_greatest h_t_text t_typed t_at t_start t_token t_value h_t_verbs h_t_nums t_items)), (h_t_book, .inl (cI, 460, .inl y60))] H := by rw [e61]; exact hP
                have hD : va_D A [(h_t, .inr (8, fX10 h_t_book h_t_images h_t_kept h_t_aside h_t_far h_t_then h_t_row h_t_mays h_t_firstRow h_t_low h_t_high t_noOlder t_thanThis t_known t_knownAge t_moved h_t_lowOne h_t_highOne h_t_ways t_met h_t_left t_hours t_greatest h_t_text t_typed t_at t_start t_token t_value h_t_verbs h_t_nums t_items)), (h_t_book, .inl (cI, 460, .inl y60))] := by rw [e61]; exact hD
                refine lv_aload_n hx hb dX10_sign_141 rfl (lv_at hl 1 rfl) ?_
                refine va_get (D := (dC, dI)) (ci := 8) (v := .ref h_t_book) (C := RX10) (T := TX10) (N := 32) hx hb hts (in1 tw_X10) hown hK hP 0 rfl rfl 0 (by decide) (hts _ (List.mem_cons_of_mem _ kw_116)) (fun _ h9 => h9) rfl dX10_sign_142 ?_
                refine lv_iconst (v := (5 : Int32)) hx hb dX10_sign_145 (by decide) ?_
                obtain ⟨g62, hf⟩ := chk_some hf
                refine va_iald hx hb hK hP 1 0 rfl rfl (gin_in g62) dX10_sign_146 ?_
                refine lv_iconst (v := (1 : Int32)) hx hb dX10_sign_147 (by decide) ?_
                refine lv_isub hx hb dX10_sign_148 ?_
                obtain ⟨rfl, rfl⟩ := inj2 hf
                subst hQ
                exact CM_iret hx hb hr rfl hlocks hAe hP hD hS dX10_sign_149
              · replace hf := ifp c40 hf
                refine lv_bipush (v := (-4 : Int32)) hx hb dX10_sign_75 (by decide) ?_
                obtain ⟨rfl, rfl⟩ := inj2 hf
                subst hQ
                exact CM_iret hx hb hr rfl hlocks hAe hP hD hS dX10_sign_77
        · replace hf := ifp c12 hf
          refine lv_bipush (v := (-2 : Int32)) hx hb dX10_sign_49 (by decide) ?_
          obtain ⟨rfl, rfl⟩ := inj2 hf
          subst hQ
          exact CM_iret hx hb hr rfl hlocks hAe hP hD hS dX10_sign_51
